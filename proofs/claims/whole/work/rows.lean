section
-- ===== PART A: goes FIRST, ahead of the names: the tables' words, and 'selects' of the private methods out of them =====
/-- a private method of a class that the tables say can be made, by its rows of tables_1 -/
def lw_okq (q : MethodName × Nat) : Prop := (q.1.cls ≠ "java/lang/invoke/MethodHandle" ∧ q.1.cls ≠ "java/lang/invoke/VarHandle") ∧ Cond.instantiable q.1.cls q.2 ∈ tables_1 ∧ Cond.privateMethod q.1 ∈ tables_1 ∧ Cond.instanceMethod q.1 ∈ tables_1
theorem lw_p0 : lw_okq (⟨"SceneShotsModel", "beginRead", "()V"⟩, 23) := ⟨⟨by decide +kernel, by decide +kernel⟩, List.mem_of_getElem? (i := 613) (by decide +kernel), List.mem_of_getElem? (i := 619) (by decide +kernel), List.mem_of_getElem? (i := 620) (by decide +kernel)⟩
theorem lw_p1 : lw_okq (⟨"SceneShotsModel", "readText", "()I"⟩, 23) := ⟨⟨by decide +kernel, by decide +kernel⟩, List.mem_of_getElem? (i := 613) (by decide +kernel), List.mem_of_getElem? (i := 711) (by decide +kernel), List.mem_of_getElem? (i := 712) (by decide +kernel)⟩
theorem lw_p2 : lw_okq (⟨"SceneShotsModel", "next", "()V"⟩, 23) := ⟨⟨by decide +kernel, by decide +kernel⟩, List.mem_of_getElem? (i := 613) (by decide +kernel), List.mem_of_getElem? (i := 715) (by decide +kernel), List.mem_of_getElem? (i := 716) (by decide +kernel)⟩
theorem lw_p3 : lw_okq (⟨"SceneShotsModel", "isLetter", "(I)Z"⟩, 23) := ⟨⟨by decide +kernel, by decide +kernel⟩, List.mem_of_getElem? (i := 613) (by decide +kernel), List.mem_of_getElem? (i := 719) (by decide +kernel), List.mem_of_getElem? (i := 720) (by decide +kernel)⟩
theorem lw_p4 : lw_okq (⟨"SceneShotsModel", "wordFrom", "(II)J"⟩, 23) := ⟨⟨by decide +kernel, by decide +kernel⟩, List.mem_of_getElem? (i := 613) (by decide +kernel), List.mem_of_getElem? (i := 723) (by decide +kernel), List.mem_of_getElem? (i := 724) (by decide +kernel)⟩
theorem lw_p5 : lw_okq (⟨"SceneShotsModel", "isFigure", "(I)Z"⟩, 23) := ⟨⟨by decide +kernel, by decide +kernel⟩, List.mem_of_getElem? (i := 613) (by decide +kernel), List.mem_of_getElem? (i := 732) (by decide +kernel), List.mem_of_getElem? (i := 733) (by decide +kernel)⟩
theorem lw_p6 : lw_okq (⟨"SceneShotsModel", "readPlayers", "()Z"⟩, 23) := ⟨⟨by decide +kernel, by decide +kernel⟩, List.mem_of_getElem? (i := 613) (by decide +kernel), List.mem_of_getElem? (i := 736) (by decide +kernel), List.mem_of_getElem? (i := 737) (by decide +kernel)⟩
theorem lw_p7 : lw_okq (⟨"SceneShotsModel", "figure", "(II)I"⟩, 23) := ⟨⟨by decide +kernel, by decide +kernel⟩, List.mem_of_getElem? (i := 613) (by decide +kernel), List.mem_of_getElem? (i := 740) (by decide +kernel), List.mem_of_getElem? (i := 741) (by decide +kernel)⟩
theorem lw_p8 : lw_okq (⟨"SceneShotsModel", "isEnded", "()Z"⟩, 23) := ⟨⟨by decide +kernel, by decide +kernel⟩, List.mem_of_getElem? (i := 613) (by decide +kernel), List.mem_of_getElem? (i := 744) (by decide +kernel), List.mem_of_getElem? (i := 745) (by decide +kernel)⟩
theorem lw_p9 : lw_okq (⟨"SceneShotsModel", "readLines", "()Z"⟩, 23) := ⟨⟨by decide +kernel, by decide +kernel⟩, List.mem_of_getElem? (i := 613) (by decide +kernel), List.mem_of_getElem? (i := 748) (by decide +kernel), List.mem_of_getElem? (i := 749) (by decide +kernel)⟩
theorem lw_p10 : lw_okq (⟨"SceneShotsModel", "readShot", "()Z"⟩, 23) := ⟨⟨by decide +kernel, by decide +kernel⟩, List.mem_of_getElem? (i := 613) (by decide +kernel), List.mem_of_getElem? (i := 752) (by decide +kernel), List.mem_of_getElem? (i := 753) (by decide +kernel)⟩
theorem lw_p11 : lw_okq (⟨"SceneShotsModel", "note", "()V"⟩, 23) := ⟨⟨by decide +kernel, by decide +kernel⟩, List.mem_of_getElem? (i := 613) (by decide +kernel), List.mem_of_getElem? (i := 756) (by decide +kernel), List.mem_of_getElem? (i := 757) (by decide +kernel)⟩
theorem lw_p12 : lw_okq (⟨"SceneShotsModel", "isLine", "(I)Z"⟩, 23) := ⟨⟨by decide +kernel, by decide +kernel⟩, List.mem_of_getElem? (i := 613) (by decide +kernel), List.mem_of_getElem? (i := 764) (by decide +kernel), List.mem_of_getElem? (i := 765) (by decide +kernel)⟩
theorem lw_p13 : lw_okq (⟨"SceneShotsModel", "isShot", "(I)Z"⟩, 23) := ⟨⟨by decide +kernel, by decide +kernel⟩, List.mem_of_getElem? (i := 613) (by decide +kernel), List.mem_of_getElem? (i := 768) (by decide +kernel), List.mem_of_getElem? (i := 769) (by decide +kernel)⟩
theorem lw_p14 : lw_okq (⟨"SceneShotsModel", "covers", "(II)Z"⟩, 23) := ⟨⟨by decide +kernel, by decide +kernel⟩, List.mem_of_getElem? (i := 613) (by decide +kernel), List.mem_of_getElem? (i := 772) (by decide +kernel), List.mem_of_getElem? (i := 773) (by decide +kernel)⟩
theorem lw_p15 : lw_okq (⟨"SceneShotsModel", "of", "(II)I"⟩, 23) := ⟨⟨by decide +kernel, by decide +kernel⟩, List.mem_of_getElem? (i := 613) (by decide +kernel), List.mem_of_getElem? (i := 776) (by decide +kernel), List.mem_of_getElem? (i := 777) (by decide +kernel)⟩
def lw_privs_1 : List (MethodName × Nat) := [(⟨"SceneShotsModel", "beginRead", "()V"⟩, 23), (⟨"SceneShotsModel", "readText", "()I"⟩, 23), (⟨"SceneShotsModel", "next", "()V"⟩, 23), (⟨"SceneShotsModel", "isLetter", "(I)Z"⟩, 23), (⟨"SceneShotsModel", "wordFrom", "(II)J"⟩, 23), (⟨"SceneShotsModel", "isFigure", "(I)Z"⟩, 23), (⟨"SceneShotsModel", "readPlayers", "()Z"⟩, 23), (⟨"SceneShotsModel", "figure", "(II)I"⟩, 23), (⟨"SceneShotsModel", "isEnded", "()Z"⟩, 23), (⟨"SceneShotsModel", "readLines", "()Z"⟩, 23), (⟨"SceneShotsModel", "readShot", "()Z"⟩, 23), (⟨"SceneShotsModel", "note", "()V"⟩, 23), (⟨"SceneShotsModel", "isLine", "(I)Z"⟩, 23), (⟨"SceneShotsModel", "isShot", "(I)Z"⟩, 23), (⟨"SceneShotsModel", "covers", "(II)Z"⟩, 23), (⟨"SceneShotsModel", "of", "(II)I"⟩, 23)]
theorem lw_r1 : ∀ q ∈ lw_privs_1, lw_okq q := List.forall_mem_cons.mpr ⟨lw_p0, List.forall_mem_cons.mpr ⟨lw_p1, List.forall_mem_cons.mpr ⟨lw_p2, List.forall_mem_cons.mpr ⟨lw_p3, List.forall_mem_cons.mpr ⟨lw_p4, List.forall_mem_cons.mpr ⟨lw_p5, List.forall_mem_cons.mpr ⟨lw_p6, List.forall_mem_cons.mpr ⟨lw_p7, List.forall_mem_cons.mpr ⟨lw_p8, List.forall_mem_cons.mpr ⟨lw_p9, List.forall_mem_cons.mpr ⟨lw_p10, List.forall_mem_cons.mpr ⟨lw_p11, List.forall_mem_cons.mpr ⟨lw_p12, List.forall_mem_cons.mpr ⟨lw_p13, List.forall_mem_cons.mpr ⟨lw_p14, List.forall_mem_cons.mpr ⟨lw_p15, fun _ h => absurd h List.not_mem_nil⟩⟩⟩⟩⟩⟩⟩⟩⟩⟩⟩⟩⟩⟩⟩⟩
theorem lw_p16 : lw_okq (⟨"SceneShotsModel", "findBest", "()Z"⟩, 23) := ⟨⟨by decide +kernel, by decide +kernel⟩, List.mem_of_getElem? (i := 613) (by decide +kernel), List.mem_of_getElem? (i := 792) (by decide +kernel), List.mem_of_getElem? (i := 793) (by decide +kernel)⟩
theorem lw_p17 : lw_okq (⟨"SceneShotsModel", "findWay", "(I)Z"⟩, 23) := ⟨⟨by decide +kernel, by decide +kernel⟩, List.mem_of_getElem? (i := 613) (by decide +kernel), List.mem_of_getElem? (i := 799) (by decide +kernel), List.mem_of_getElem? (i := 800) (by decide +kernel)⟩
theorem lw_p18 : lw_okq (⟨"SceneShotsModel", "findCuts", "(I)V"⟩, 23) := ⟨⟨by decide +kernel, by decide +kernel⟩, List.mem_of_getElem? (i := 613) (by decide +kernel), List.mem_of_getElem? (i := 803) (by decide +kernel), List.mem_of_getElem? (i := 804) (by decide +kernel)⟩
theorem lw_p19 : lw_okq (⟨"SceneShotsModel", "mayFollow", "(III)Z"⟩, 23) := ⟨⟨by decide +kernel, by decide +kernel⟩, List.mem_of_getElem? (i := 613) (by decide +kernel), List.mem_of_getElem? (i := 807) (by decide +kernel), List.mem_of_getElem? (i := 808) (by decide +kernel)⟩
theorem lw_p20 : lw_okq (⟨"SceneShotsModel", "canCut", "(II)Z"⟩, 23) := ⟨⟨by decide +kernel, by decide +kernel⟩, List.mem_of_getElem? (i := 613) (by decide +kernel), List.mem_of_getElem? (i := 811) (by decide +kernel), List.mem_of_getElem? (i := 812) (by decide +kernel)⟩
theorem lw_p21 : lw_okq (⟨"SceneShotsModel", "areNear", "(II)Z"⟩, 23) := ⟨⟨by decide +kernel, by decide +kernel⟩, List.mem_of_getElem? (i := 613) (by decide +kernel), List.mem_of_getElem? (i := 815) (by decide +kernel), List.mem_of_getElem? (i := 816) (by decide +kernel)⟩
theorem lw_p22 : lw_okq (⟨"SceneShotsModel", "wayOf", "(II)I"⟩, 23) := ⟨⟨by decide +kernel, by decide +kernel⟩, List.mem_of_getElem? (i := 613) (by decide +kernel), List.mem_of_getElem? (i := 819) (by decide +kernel), List.mem_of_getElem? (i := 820) (by decide +kernel)⟩
theorem lw_p23 : lw_okq (⟨"SceneShotsModel", "sideOf", "(I)I"⟩, 23) := ⟨⟨by decide +kernel, by decide +kernel⟩, List.mem_of_getElem? (i := 613) (by decide +kernel), List.mem_of_getElem? (i := 823) (by decide +kernel), List.mem_of_getElem? (i := 824) (by decide +kernel)⟩
theorem lw_p24 : lw_okq (⟨"SceneShotsModel", "isReaction", "(II)Z"⟩, 23) := ⟨⟨by decide +kernel, by decide +kernel⟩, List.mem_of_getElem? (i := 613) (by decide +kernel), List.mem_of_getElem? (i := 827) (by decide +kernel), List.mem_of_getElem? (i := 828) (by decide +kernel)⟩
theorem lw_p25 : lw_okq (⟨"SceneShotsModel", "isBefore", "()Z"⟩, 23) := ⟨⟨by decide +kernel, by decide +kernel⟩, List.mem_of_getElem? (i := 613) (by decide +kernel), List.mem_of_getElem? (i := 831) (by decide +kernel), List.mem_of_getElem? (i := 832) (by decide +kernel)⟩
theorem lw_p26 : lw_okq (⟨"SceneShotsModel", "coversOf", "(I)I"⟩, 23) := ⟨⟨by decide +kernel, by decide +kernel⟩, List.mem_of_getElem? (i := 613) (by decide +kernel), List.mem_of_getElem? (i := 843) (by decide +kernel), List.mem_of_getElem? (i := 844) (by decide +kernel)⟩
theorem lw_p27 : lw_okq (⟨"SceneShotsModel", "cutsOf", "(I)I"⟩, 23) := ⟨⟨by decide +kernel, by decide +kernel⟩, List.mem_of_getElem? (i := 613) (by decide +kernel), List.mem_of_getElem? (i := 852) (by decide +kernel), List.mem_of_getElem? (i := 853) (by decide +kernel)⟩
theorem lw_p28 : lw_okq (⟨"SceneShotsModel", "dearOf", "(I)F"⟩, 23) := ⟨⟨by decide +kernel, by decide +kernel⟩, List.mem_of_getElem? (i := 613) (by decide +kernel), List.mem_of_getElem? (i := 872) (by decide +kernel), List.mem_of_getElem? (i := 873) (by decide +kernel)⟩
theorem lw_p29 : lw_okq (⟨"SceneShotsModel", "isSo", "(I)Z"⟩, 23) := ⟨⟨by decide +kernel, by decide +kernel⟩, List.mem_of_getElem? (i := 613) (by decide +kernel), List.mem_of_getElem? (i := 894) (by decide +kernel), List.mem_of_getElem? (i := 895) (by decide +kernel)⟩
def lw_privs_2 : List (MethodName × Nat) := [(⟨"SceneShotsModel", "findBest", "()Z"⟩, 23), (⟨"SceneShotsModel", "findWay", "(I)Z"⟩, 23), (⟨"SceneShotsModel", "findCuts", "(I)V"⟩, 23), (⟨"SceneShotsModel", "mayFollow", "(III)Z"⟩, 23), (⟨"SceneShotsModel", "canCut", "(II)Z"⟩, 23), (⟨"SceneShotsModel", "areNear", "(II)Z"⟩, 23), (⟨"SceneShotsModel", "wayOf", "(II)I"⟩, 23), (⟨"SceneShotsModel", "sideOf", "(I)I"⟩, 23), (⟨"SceneShotsModel", "isReaction", "(II)Z"⟩, 23), (⟨"SceneShotsModel", "isBefore", "()Z"⟩, 23), (⟨"SceneShotsModel", "coversOf", "(I)I"⟩, 23), (⟨"SceneShotsModel", "cutsOf", "(I)I"⟩, 23), (⟨"SceneShotsModel", "dearOf", "(I)F"⟩, 23), (⟨"SceneShotsModel", "isSo", "(I)Z"⟩, 23)]
theorem lw_r2 : ∀ q ∈ lw_privs_2, lw_okq q := List.forall_mem_cons.mpr ⟨lw_p16, List.forall_mem_cons.mpr ⟨lw_p17, List.forall_mem_cons.mpr ⟨lw_p18, List.forall_mem_cons.mpr ⟨lw_p19, List.forall_mem_cons.mpr ⟨lw_p20, List.forall_mem_cons.mpr ⟨lw_p21, List.forall_mem_cons.mpr ⟨lw_p22, List.forall_mem_cons.mpr ⟨lw_p23, List.forall_mem_cons.mpr ⟨lw_p24, List.forall_mem_cons.mpr ⟨lw_p25, List.forall_mem_cons.mpr ⟨lw_p26, List.forall_mem_cons.mpr ⟨lw_p27, List.forall_mem_cons.mpr ⟨lw_p28, List.forall_mem_cons.mpr ⟨lw_p29, fun _ h => absurd h List.not_mem_nil⟩⟩⟩⟩⟩⟩⟩⟩⟩⟩⟩⟩⟩⟩
def lw_privs : List (MethodName × Nat) := lw_privs_1 ++ (lw_privs_2)
def lw_tbl : List Cond := k2_sels lw_privs ++ tables_1
theorem lw_privs_ok : ∀ q ∈ lw_privs, lw_okq q := by
  show ∀ q ∈ lw_privs_1 ++ (lw_privs_2), lw_okq q
  exact List.forall_mem_append.mpr ⟨lw_r1, lw_r2⟩
/-- the streams that the claim lets the run draw from -/
abbrev lw_cs : List Choice := [Jvm.Choice.named "NaN.bits"]
theorem lw_bits : nanBits ∈ lw_cs := by first | decide | exact List.mem_cons_self | simp [lw_cs, nanBits]

/-! ===== BEGIN new T[n][m]: the outer array a place, the inner ones among the pooled ===== -/
/-- f, but v at every address of l -/
def vr_up {α : Type} (f : Nat → α) (l : List Nat) (v : α) : Nat → α := fun a => if a ∈ l then v else f a
theorem vr_up_in {α : Type} {f : Nat → α} {l : List Nat} {v : α} {a : Nat} (h : a ∈ l) : vr_up f l v a = v := if_pos h
theorem vr_up_ne {α : Type} {f : Nat → α} {l : List Nat} {v : α} {a : Nat} (h : a ∉ l) : vr_up f l v a = f a := if_neg h
theorem vr_rows {L l : List Nat} {f : Nat → va_E} {e : va_E} (h : ∀ a, a ∈ l → a ∉ L) : va_pl L f ++ l.map (fun a => (a, e)) = va_pl (L ++ l) (vr_up f l e) := by
  unfold va_pl
  rw [List.map_append]
  congr 1
  · apply List.map_congr_left
    intro a ha
    rw [vr_up_ne (fun q => h a q ha)]
  · apply List.map_congr_left
    intro a ha
    rw [vr_up_in ha]
theorem vr_lay {X rows : va_W} {x : Nat × va_E} {pl : va_W} {D : va_G} {cl : List vw_C} {H : Heap} (hP : va_P D cl (((X ++ pl) ++ [x]) ++ rows) H) : va_P D cl ((X ++ [x]) ++ (pl ++ rows)) H := by
  rw [List.append_assoc (X ++ pl)] at hP
  have h := va_P.swap hP
  rw [← List.append_assoc X] at h
  have h2 := va_P.swap h
  rw [List.append_assoc (X ++ [x])] at h2
  exact h2
theorem vr_layD {X rows : va_W} {x : Nat × va_E} {pl : va_W} {A : Nat → Prop} (hD : va_D A (((X ++ pl) ++ [x]) ++ rows)) : va_D A ((X ++ [x]) ++ (pl ++ rows)) := by
  rw [List.append_assoc (X ++ pl)] at hD
  have h := va_D.swap hD
  rw [← List.append_assoc X] at h
  have h2 := va_D.swap h
  rw [List.append_assoc (X ++ [x])] at h2
  exact h2
theorem vr_outer (c : ClassId) (N h0 : Nat) : ∀ i : Nat, Jvm.Free.Multi.outerC c N h0 i = arrV c N (fun j => va_rf (if j < i then some (h0 + 1 + j) else none))
  | 0 => by
    show ({ cls := c, slots := Array.replicate N .null, vm := .none } : Cell) = _
    rw [arrV_new]
    refine congrArg (arrV c N) (funext fun j => ?_)
    simp [va_rf]
  | i + 1 => by
    show (Jvm.Free.Multi.outerC c N h0 i).setSlot i (.ref (h0 + 1 + i)) = _
    rw [vr_outer c N h0 i, arrV_store]
    refine congrArg (arrV c N) (funext fun j => ?_)
    by_cases e : j = i
    · subst e
      simp [updV, va_rf]
    · by_cases h : j < i
      · simp [updV, e, h, Nat.lt_succ_of_lt h]
      · simp [updV, e, h, show ¬ j < i + 1 by omega]
section VGM
variable {p : Program} {l : Launch} {e : Env} {R : Room} {s : State} {m : MethodId} {args : Array Value} {below : List Frame} {meth : Method} {c : Code} {H : Heap} {locs : List Loc} {cells slots : Nat} {Q : State → Prop}
variable {cc : ByteArray} {pc : Nat} {ls : Array Slot} {rest : List Value} {D : va_G} {cl : List vw_C} {A : Nat → Prop} {a : Nat} {tys : List (ClassId × FieldType)} {ws : va_W} {H0 : Heap}
theorem va_mna {X : va_W} {L : List Nat} {f : Nat → va_E} {cc : ByteArray} (hexec : p.tables.exec = Jvm.exec) (hb : c.code = cc) {own : String} {index : Nat} {ty : FieldType} {cy : ClassId} (hown : s.vm.findClass own = some m.cls) (hclink : (Cond.classLink own index ("[" ++ (FieldType.array ty).toString)).before args s = true) (hover : (Cond.arrayOver (.array ty)).before args s = true) (harr : (Cond.arrayClass ty).before args s = true) (hcy : s.vm.findClass (FieldType.array ty).toString = some cy)
    (hK : va_K D cl tys s) (hP : va_P D cl (X ++ va_pl L f) H) (hD : va_D A (X ++ va_pl L f)) (hS : va_S A H0 H locs) (hA : ∀ q, H0.size ≤ q → A q) {n k : Int32} {N' K' : Nat} {z : vp_A} (hn : ¬ n < 0) (hk : ¬ k < 0) (hN : n.toNatClampNeg = N') (hM : k.toNatClampNeg = K')
    (hb1 : N' * 4 ≤ 536870912) (hb2 : K' * componentBytes ty ≤ 536870912) (hb3 : K' ≤ 536870912) (hdf : fits ty (defaultValue ty) = true) (hdd : (defaultValue ty).isDefault = true) (hcells : cells + (1 + N') ≤ R.cells) (hslots : slots + (N' + N' * K') ≤ R.slots) (hz : ∀ c : ClassId, Jvm.Free.Multi.innerC c K' (defaultValue ty) = vp_cell c z) (hdg : decode cc pc = .ok (.multianewarray index 2, 4))
    (kk : ∀ (q : Nat) (r : Nat → Nat) (cA : ClassId) (H1 : Heap), (∀ i j : Nat, i < N' → j < N' → r i = r j → i = j) → (∀ i : Nat, i < N' → r i ∉ L) → va_K D cl (tys ++ [(cA, .array ty)]) s →
      va_P D cl ((X ++ [(q, .inl (cA, N', .inr (.inr (.inr (.inr (fun i => if i < N' then some (r i) else none))))))]) ++ va_pl (L ++ (List.range N').map r) (vr_up f ((List.range N').map r) (.inl (cy, z)))) H1 → va_D A ((X ++ [(q, .inl (cA, N', .inr (.inr (.inr (.inr (fun i => if i < N' then some (r i) else none))))))]) ++ va_pl (L ++ (List.range N').map r) (vr_up f ((List.range N').map r) (.inl (cy, z)))) → va_S A H0 H1 locs →
      W p l e R s m args below meth c H1 locs (cells + 1 + N') (slots + N' + N' * K') Q (F0 m (pc + 4) ls (.ref q :: rest))) : W p l e R s m args below meth c H locs cells slots Q (F0 m pc ls (.int k :: .int n :: rest)) := by
  subst hN
  subst hM
  intro T hT Xs
  obtain ⟨vm₁, cA, comp, -, fA, fC, hO, -, X', step⟩ := Xs.multianewarray2F hexec hown hclink hover harr (g := F0 m pc ls (.int k :: .int n :: rest)) rfl (by rw [hb]; exact hdg) rfl hn hk hb1 hb2 hb3 hdf hdd hcells hslots
  have ec : some cy = some comp := hcy.symm.trans fC
  cases ec
  generalize hF : Jvm.Free.Multi.fill (T.setVm vm₁) cA cy n.toNatClampNeg k.toNatClampNeg (defaultValue ty) n.toNatClampNeg = F at X' step
  have hTh : (T.setVm vm₁).heap = H := hT
  obtain ⟨f1, f2, -, -⟩ := Jvm.Free.Multi.fill_facts (T.setVm vm₁) cA cy n.toNatClampNeg k.toNatClampNeg (defaultValue ty) n.toNatClampNeg
  rw [hF, hTh] at f1 f2
  have hold : ∀ x : Nat, x < H.size → F.heap[x]? = H[x]? := fun x hx => by
    have := Jvm.Free.Multi.fill_old (T.setVm vm₁) cA cy n.toNatClampNeg k.toNatClampNeg (defaultValue ty) (a := x) (by rw [hTh]; exact hx) n.toNatClampNeg
    rw [hF, hTh] at this
    exact this
  have hrow : ∀ j : Nat, j < n.toNatClampNeg → F.heap[H.size + 1 + j]? = some (vp_cell cy z) := fun j hj => by
    have := Jvm.Free.Multi.fill_inner (T.setVm vm₁) cA cy n.toNatClampNeg k.toNatClampNeg (defaultValue ty) n.toNatClampNeg j hj
    rw [hF, hTh, hz] at this
    exact this
  have hout : Jvm.Free.Multi.outerC cA n.toNatClampNeg H.size n.toNatClampNeg = vp_cell cA (n.toNatClampNeg, .inr (.inr (.inr (.inr (fun i => if i < n.toNatClampNeg then some (H.size + 1 + i) else none))))) := by
    rw [vp_cell_q]
    exact vr_outer cA n.toNatClampNeg H.size n.toNatClampNeg
  rw [hout] at f2
  have hlt : ∀ a, a ∈ L → a < H.size := fun a ha => by
    obtain ⟨k9, hk9⟩ := va_pl_get (X := X) (f := f) ha
    exact (hP k9 _ hk9).lt
  have hnl : ∀ i : Nat, i < n.toNatClampNeg → H.size + 1 + i ∉ L := fun i _ h => by
    have := hlt _ h
    omega
  have hnm : ∀ a, a ∈ (List.range n.toNatClampNeg).map (fun i => H.size + 1 + i) → a ∉ L := fun a ha h => by
    obtain ⟨i, -, rfl⟩ := List.mem_map.mp ha
    have := hlt _ h
    omega
  have hP0 : va_P D cl (X ++ va_pl L f) F.heap := hP.kept (fun k9 x hx => hold x.1 ((hP k9 x hx).lt))
  have hP1 : va_P D cl ((X ++ va_pl L f) ++ [(H.size, .inl (cA, n.toNatClampNeg, .inr (.inr (.inr (.inr (fun i => if i < n.toNatClampNeg then some (H.size + 1 + i) else none))))))]) F.heap := hP0.app (fun k9 x hx => by
    have h0 : k9 < 1 := (List.getElem?_eq_some_iff.mp hx).1
    rw [show k9 = 0 by omega] at hx
    cases hx
    exact f2)
  have hP2 : va_P D cl (((X ++ va_pl L f) ++ [(H.size, .inl (cA, n.toNatClampNeg, .inr (.inr (.inr (.inr (fun i => if i < n.toNatClampNeg then some (H.size + 1 + i) else none))))))]) ++ ((List.range n.toNatClampNeg).map (fun i => H.size + 1 + i)).map (fun a => (a, .inl (cy, z)))) F.heap := hP1.app (fun k9 x hx => by
    obtain ⟨a, ha, rfl⟩ := List.mem_map.mp (List.mem_of_getElem? hx)
    obtain ⟨i, hi, rfl⟩ := List.mem_map.mp ha
    exact hrow i (List.mem_range.mp hi))
  have hD2 : va_D A (((X ++ va_pl L f) ++ [(H.size, .inl (cA, n.toNatClampNeg, .inr (.inr (.inr (.inr (fun i => if i < n.toNatClampNeg then some (H.size + 1 + i) else none))))))]) ++ ((List.range n.toNatClampNeg).map (fun i => H.size + 1 + i)).map (fun a => (a, .inl (cy, z)))) := by
    have hD1 := hD.push (e := .inl (cA, n.toNatClampNeg, .inr (.inr (.inr (.inr (fun i => if i < n.toNatClampNeg then some (H.size + 1 + i) else none)))))) hP rfl (hA _ hS.1)
    generalize hW1 : (X ++ va_pl L f) ++ [(H.size, .inl (cA, n.toNatClampNeg, .inr (.inr (.inr (.inr (fun i => if i < n.toNatClampNeg then some (H.size + 1 + i) else none))))))] = W1 at hD1 hP1 ⊢
    have hle : ∀ (k9 : Nat) (x : Nat × va_E), W1[k9]? = some x → x.1 ≤ H.size := fun k9 x hx => by
      rw [← hW1] at hx
      by_cases hl : k9 < (X ++ va_pl L f).length
      · rw [List.getElem?_append_left hl] at hx
        exact Nat.le_of_lt ((hP k9 x hx).lt)
      · rw [List.getElem?_append_right (by omega)] at hx
        have h0 : k9 - (X ++ va_pl L f).length < 1 := (List.getElem?_eq_some_iff.mp hx).1
        rw [show k9 - (X ++ va_pl L f).length = 0 by omega] at hx
        cases hx
        exact Nat.le_refl _
    have hr : ∀ (k9 : Nat) (x : Nat × va_E), (((List.range n.toNatClampNeg).map (fun i => H.size + 1 + i)).map (fun a => ((a, .inl (cy, z)) : Nat × va_E)))[k9]? = some x → x.1 = H.size + 1 + k9 := fun k9 x hx => by
      rw [List.getElem?_map, List.getElem?_map] at hx
      by_cases h9 : k9 < n.toNatClampNeg
      · rw [List.getElem?_range h9] at hx
        cases hx
        rfl
      · have hn0 : (List.range n.toNatClampNeg)[k9]? = none := List.getElem?_eq_none (by rw [List.length_range]; omega)
        rw [hn0] at hx
        cases hx
    refine ⟨fun i j x y hi hj hxy => ?_, fun k9 x hx => ?_⟩
    · by_cases h1 : i < W1.length <;> by_cases h2 : j < W1.length
      · rw [List.getElem?_append_left h1] at hi
        rw [List.getElem?_append_left h2] at hj
        exact hD1.1 i j x y hi hj hxy
      · rw [List.getElem?_append_left h1] at hi
        rw [List.getElem?_append_right (by omega)] at hj
        have := hle _ _ hi
        have := hr _ _ hj
        omega
      · rw [List.getElem?_append_right (by omega)] at hi
        rw [List.getElem?_append_left h2] at hj
        have := hle _ _ hj
        have := hr _ _ hi
        omega
      · rw [List.getElem?_append_right (by omega)] at hi hj
        have := hr _ _ hi
        have := hr _ _ hj
        omega
    · by_cases h1 : k9 < W1.length
      · rw [List.getElem?_append_left h1] at hx
        exact hD1.2 k9 x hx
      · rw [List.getElem?_append_right (by omega)] at hx
        have := hr _ _ hx
        exact hA _ (by have := hS.1; omega)
  have hAr : ArrOfT s cA (.array ty) := fun N9 z9 => by
    obtain ⟨-, k9, hk9, cm9, hkk9⟩ := (hO 0 0 0).1
    exact ⟨(fun q hq => by cases hq), k9, hk9, cm9, hkk9⟩
  have hK2 : va_K D cl (tys ++ [(cA, .array ty)]) s := ⟨hK.1, fun k9 x hx => by
    by_cases hl : k9 < tys.length
    · rw [List.getElem?_append_left hl] at hx
      exact hK.2 k9 x hx
    · rw [List.getElem?_append_right (by omega)] at hx
      have h0 : k9 - tys.length < 1 := (List.getElem?_eq_some_iff.mp hx).1
      rw [show k9 - tys.length = 0 by omega] at hx
      cases hx
      exact ⟨hAr, fA⟩⟩
  obtain ⟨t, a1, b1⟩ := kk H.size (fun i => H.size + 1 + i) cA F.heap (fun i j _ _ h => by have h9 : H.size + 1 + i = H.size + 1 + j := h; omega) hnl hK2 (by rw [← vr_rows hnm]; exact vr_lay hP2) (by rw [← vr_rows hnm]; exact vr_layD hD2) ⟨by rw [f1]; have := hS.1; omega, fun x h1 h2 => (hold x (Nat.lt_of_lt_of_le h1 hS.1)).trans (hS.2.1 x h1 h2), hS.2.2⟩ F rfl X'
  refine ⟨t, step t ?_, b1⟩
  have e : T.heap.size = H.size := by rw [hT]
  rw [e]
  exact a1
end VGM
/-! ===== END ===== -/
def RX0 : String := "SceneShots$Past"
def TX0 : u_T := fun k => match k with
  | 0 => ("SceneShots$Past", "scenes", "[LSceneShots$Scene;", true)
  | 1 => ("SceneShots$Past", "known", "I", false)
  | _ => ("SceneShots$Past", "next", "I", false)
def tyX0 : Nat → FieldType := fun k => match k with
  | 0 => .array (.object "SceneShots$Scene")
  | 1 => .int
  | _ => .int
theorem nmX0 : ∀ a, a < 3 → ∀ b, b < 3 → a ≠ b → (TX0 a).2.1 ≠ (TX0 b).2.1 := by decide +kernel
theorem tyX0_ok : ∀ k, k < 3 → parseFieldDescriptor (TX0 k).2.2.1 = some (tyX0 k) := by decide +kernel
abbrev cX0_init : ByteArray := prog_2_method_1_code
def yX0_init : MethodName := ⟨RX0, "<init>", "()V"⟩
abbrev cX0_remember : ByteArray := prog_2_method_2_code
def yX0_remember : MethodName := ⟨RX0, "remember", "(LSceneShots$Scene;)V"⟩
abbrev cX0_restore : ByteArray := prog_2_method_3_code
def yX0_restore : MethodName := ⟨RX0, "restore", "(LSceneShots$Scene;)Z"⟩
def RX1 : String := "SceneShots$Planner"
def TX1 : u_T := fun k => match k with
  | 0 => ("SceneShots$Planner", "coverers", "[I", true)
  | 1 => ("SceneShots$Planner", "followers", "[[I", true)
  | 2 => ("SceneShots$Planner", "cutsBehind", "[[I", true)
  | 3 => ("SceneShots$Planner", "partners", "[I", true)
  | 4 => ("SceneShots$Planner", "prices", "[I", true)
  | 5 => ("SceneShots$Planner", "trial", "[I", true)
  | 6 => ("SceneShots$Planner", "bestEdit", "[I", true)
  | 7 => ("SceneShots$Planner", "lines", "I", false)
  | 8 => ("SceneShots$Planner", "shots", "I", false)
  | 9 => ("SceneShots$Planner", "bestSize", "I", false)
  | _ => ("SceneShots$Planner", "bestCuts", "I", false)
def tyX1 : Nat → FieldType := fun k => match k with
  | 0 => .array .int
  | 1 => .array (.array .int)
  | 2 => .array (.array .int)
  | 3 => .array .int
  | 4 => .array .int
  | 5 => .array .int
  | 6 => .array .int
  | 7 => .int
  | 8 => .int
  | 9 => .int
  | _ => .int
theorem nmX1 : ∀ a, a < 11 → ∀ b, b < 11 → a ≠ b → (TX1 a).2.1 ≠ (TX1 b).2.1 := by decide +kernel
theorem tyX1_ok : ∀ k, k < 11 → parseFieldDescriptor (TX1 k).2.2.1 = some (tyX1 k) := by decide +kernel
abbrev cX1_init : ByteArray := prog_3_method_1_code
def yX1_init : MethodName := ⟨RX1, "<init>", "()V"⟩
abbrev cX1_study : ByteArray := prog_3_method_2_code
def yX1_study : MethodName := ⟨RX1, "study", "(LSceneShots$Scene;)V"⟩
abbrev cX1_followersOf : ByteArray := prog_3_method_3_code
def yX1_followersOf : MethodName := ⟨RX1, "followersOf", "(LSceneShots$Scene;II)I"⟩
abbrev cX1_hasWholeEdit : ByteArray := prog_3_method_4_code
def yX1_hasWholeEdit : MethodName := ⟨RX1, "hasWholeEdit", "(I)Z"⟩
abbrev cX1_findBest : ByteArray := prog_3_method_5_code
def yX1_findBest : MethodName := ⟨RX1, "findBest", "()Z"⟩
abbrev cX1_planTrial : ByteArray := prog_3_method_6_code
def yX1_planTrial : MethodName := ⟨RX1, "planTrial", "(I)I"⟩
abbrev cX1_fewestBehind : ByteArray := prog_3_method_7_code
def yX1_fewestBehind : MethodName := ⟨RX1, "fewestBehind", "(III)I"⟩
abbrev cX1_cheapestOf : ByteArray := prog_3_method_8_code
def yX1_cheapestOf : MethodName := ⟨RX1, "cheapestOf", "(III)I"⟩
abbrev cX1_cutsFrom : ByteArray := prog_3_method_9_code
def yX1_cutsFrom : MethodName := ⟨RX1, "cutsFrom", "(III)I"⟩
abbrev cX1_trialIsLower : ByteArray := prog_3_method_10_code
def yX1_trialIsLower : MethodName := ⟨RX1, "trialIsLower", "()Z"⟩
abbrev cX1_takeTrial : ByteArray := prog_3_method_11_code
def yX1_takeTrial : MethodName := ⟨RX1, "takeTrial", "(II)V"⟩
abbrev cX1_differsFrom : ByteArray := prog_3_method_12_code
def yX1_differsFrom : MethodName := ⟨RX1, "differsFrom", "(LSceneShots$Scene;)I"⟩
abbrev cX1_giveBestTo : ByteArray := prog_3_method_13_code
def yX1_giveBestTo : MethodName := ⟨RX1, "giveBestTo", "(LSceneShots$Scene;)V"⟩
abbrev cX1_dear : ByteArray := prog_3_method_14_code
def yX1_dear : MethodName := ⟨RX1, "dear", "(I)F"⟩
abbrev cX1_cheapestSet : ByteArray := prog_3_method_15_code
def yX1_cheapestSet : MethodName := ⟨RX1, "cheapestSet", "()I"⟩
abbrev cX1_neededShots : ByteArray := prog_3_method_16_code
def yX1_neededShots : MethodName := ⟨RX1, "neededShots", "()I"⟩
def RX2 : String := "SceneShots$Reader"
def TX2 : u_T := fun k => match k with
  | 0 => ("SceneShots$Reader", "text", "[I", true)
  | 1 => ("SceneShots$Reader", "length", "I", false)
  | 2 => ("SceneShots$Reader", "kind", "I", false)
  | 3 => ("SceneShots$Reader", "start", "I", false)
  | 4 => ("SceneShots$Reader", "end", "I", false)
  | 5 => ("SceneShots$Reader", "playersTold", "Z", false)
  | _ => ("SceneShots$Reader", "linesTold", "Z", false)
def tyX2 : Nat → FieldType := fun k => match k with
  | 0 => .array .int
  | 1 => .int
  | 2 => .int
  | 3 => .int
  | 4 => .int
  | 5 => .boolean
  | _ => .boolean
theorem nmX2 : ∀ a, a < 7 → ∀ b, b < 7 → a ≠ b → (TX2 a).2.1 ≠ (TX2 b).2.1 := by decide +kernel
theorem tyX2_ok : ∀ k, k < 7 → parseFieldDescriptor (TX2 k).2.2.1 = some (tyX2 k) := by decide +kernel
abbrev cX2_init : ByteArray := prog_4_method_1_code
def yX2_init : MethodName := ⟨RX2, "<init>", "()V"⟩
abbrev cX2_takeLetter : ByteArray := prog_4_method_2_code
def yX2_takeLetter : MethodName := ⟨RX2, "takeLetter", "(I)Z"⟩
abbrev cX2_dropText : ByteArray := prog_4_method_3_code
def yX2_dropText : MethodName := ⟨RX2, "dropText", "()I"⟩
abbrev cX2_readInto : ByteArray := prog_4_method_4_code
def yX2_readInto : MethodName := ⟨RX2, "readInto", "(LSceneShots$Scene;)I"⟩
abbrev cX2_readItem : ByteArray := prog_4_method_5_code
def yX2_readItem : MethodName := ⟨RX2, "readItem", "(LSceneShots$Scene;)Z"⟩
abbrev cX2_readPlayers : ByteArray := prog_4_method_6_code
def yX2_readPlayers : MethodName := ⟨RX2, "readPlayers", "(LSceneShots$Scene;)Z"⟩
abbrev cX2_readLines : ByteArray := prog_4_method_7_code
def yX2_readLines : MethodName := ⟨RX2, "readLines", "(LSceneShots$Scene;)Z"⟩
abbrev cX2_readShot : ByteArray := prog_4_method_8_code
def yX2_readShot : MethodName := ⟨RX2, "readShot", "(LSceneShots$Scene;)Z"⟩
abbrev cX2_stepToStop : ByteArray := prog_4_method_9_code
def yX2_stepToStop : MethodName := ⟨RX2, "stepToStop", "()Z"⟩
abbrev cX2_stepToFigure : ByteArray := prog_4_method_10_code
def yX2_stepToFigure : MethodName := ⟨RX2, "stepToFigure", "(II)Z"⟩
abbrev cX2_step : ByteArray := prog_4_method_11_code
def yX2_step : MethodName := ⟨RX2, "step", "()V"⟩
abbrev cX2_kindAt : ByteArray := prog_4_method_12_code
def yX2_kindAt : MethodName := ⟨RX2, "kindAt", "(I)I"⟩
abbrev cX2_isWord : ByteArray := prog_4_method_13_code
def yX2_isWord : MethodName := ⟨RX2, "isWord", "(Ljava/lang/String;)Z"⟩
def RX3 : String := "SceneShots$Scene"
def TX3 : u_T := fun k => match k with
  | 0 => ("SceneShots$Scene", "places", "[I", true)
  | 1 => ("SceneShots$Scene", "speakers", "[I", true)
  | 2 => ("SceneShots$Scene", "chosen", "[I", true)
  | 3 => ("SceneShots$Scene", "facts", "[I", true)
  | 4 => ("SceneShots$Scene", "lines", "I", false)
  | _ => ("SceneShots$Scene", "shots", "I", false)
def tyX3 : Nat → FieldType := fun k => match k with
  | 0 => .array .int
  | 1 => .array .int
  | 2 => .array .int
  | 3 => .array .int
  | 4 => .int
  | _ => .int
theorem nmX3 : ∀ a, a < 6 → ∀ b, b < 6 → a ≠ b → (TX3 a).2.1 ≠ (TX3 b).2.1 := by decide +kernel
theorem tyX3_ok : ∀ k, k < 6 → parseFieldDescriptor (TX3 k).2.2.1 = some (tyX3 k) := by decide +kernel
abbrev cX3_init : ByteArray := prog_5_method_1_code
def yX3_init : MethodName := ⟨RX3, "<init>", "()V"⟩
abbrev cX3_startAnew : ByteArray := prog_5_method_2_code
def yX3_startAnew : MethodName := ⟨RX3, "startAnew", "()V"⟩
abbrev cX3_become : ByteArray := prog_5_method_3_code
def yX3_become : MethodName := ⟨RX3, "become", "(LSceneShots$Scene;)V"⟩
abbrev cX3_hasLine : ByteArray := prog_5_method_4_code
def yX3_hasLine : MethodName := ⟨RX3, "hasLine", "(I)Z"⟩
abbrev cX3_hasShot : ByteArray := prog_5_method_5_code
def yX3_hasShot : MethodName := ⟨RX3, "hasShot", "(I)Z"⟩
abbrev cX3_fact : ByteArray := prog_5_method_6_code
def yX3_fact : MethodName := ⟨RX3, "fact", "(II)I"⟩
abbrev cX3_dropShot : ByteArray := prog_5_method_7_code
def yX3_dropShot : MethodName := ⟨RX3, "dropShot", "(I)V"⟩
abbrev cX3_loseShotInEdit : ByteArray := prog_5_method_8_code
def yX3_loseShotInEdit : MethodName := ⟨RX3, "loseShotInEdit", "(I)I"⟩
abbrev cX3_covers : ByteArray := prog_5_method_9_code
def yX3_covers : MethodName := ⟨RX3, "covers", "(II)Z"⟩
abbrev cX3_coverers : ByteArray := prog_5_method_10_code
def yX3_coverers : MethodName := ⟨RX3, "coverers", "(I)I"⟩
abbrev cX3_side : ByteArray := prog_5_method_11_code
def yX3_side : MethodName := ⟨RX3, "side", "(I)I"⟩
abbrev cX3_wayX : ByteArray := prog_5_method_12_code
def yX3_wayX : MethodName := ⟨RX3, "wayX", "(I)I"⟩
abbrev cX3_wayY : ByteArray := prog_5_method_13_code
def yX3_wayY : MethodName := ⟨RX3, "wayY", "(I)I"⟩
abbrev cX3_near : ByteArray := prog_5_method_14_code
def yX3_near : MethodName := ⟨RX3, "near", "(II)Z"⟩
abbrev cX3_tooLike : ByteArray := prog_5_method_15_code
def yX3_tooLike : MethodName := ⟨RX3, "tooLike", "(II)Z"⟩
abbrev cX3_canBeCut : ByteArray := prog_5_method_16_code
def yX3_canBeCut : MethodName := ⟨RX3, "canBeCut", "(II)Z"⟩
abbrev cX3_partners : ByteArray := prog_5_method_17_code
def yX3_partners : MethodName := ⟨RX3, "partners", "(I)I"⟩
abbrev cX3_isReaction : ByteArray := prog_5_method_18_code
def yX3_isReaction : MethodName := ⟨RX3, "isReaction", "(II)Z"⟩
abbrev cX3_linesWithoutShot : ByteArray := prog_5_method_19_code
def yX3_linesWithoutShot : MethodName := ⟨RX3, "linesWithoutShot", "()I"⟩
abbrev cX3_isCutAhead : ByteArray := prog_5_method_20_code
def yX3_isCutAhead : MethodName := ⟨RX3, "isCutAhead", "(I)Z"⟩
abbrev cX3_wrongCuts : ByteArray := prog_5_method_21_code
def yX3_wrongCuts : MethodName := ⟨RX3, "wrongCuts", "()I"⟩
abbrev cX3_doubleReactions : ByteArray := prog_5_method_22_code
def yX3_doubleReactions : MethodName := ⟨RX3, "doubleReactions", "()I"⟩
abbrev cX3_cuts : ByteArray := prog_5_method_23_code
def yX3_cuts : MethodName := ⟨RX3, "cuts", "()I"⟩
abbrev cX3_shotsUsed : ByteArray := prog_5_method_24_code
def yX3_shotsUsed : MethodName := ⟨RX3, "shotsUsed", "()I"⟩
def RX4 : String := "SceneShots$Sights"
def TX4 : u_T := fun k => match k with
  | 0 => ("SceneShots$Sights", "whats", "[I", true)
  | 1 => ("SceneShots$Sights", "numbers", "[I", true)
  | _ => ("SceneShots$Sights", "seen", "I", false)
def tyX4 : Nat → FieldType := fun k => match k with
  | 0 => .array .int
  | 1 => .array .int
  | _ => .int
theorem nmX4 : ∀ a, a < 3 → ∀ b, b < 3 → a ≠ b → (TX4 a).2.1 ≠ (TX4 b).2.1 := by decide +kernel
theorem tyX4_ok : ∀ k, k < 3 → parseFieldDescriptor (TX4 k).2.2.1 = some (tyX4 k) := by decide +kernel
abbrev cX4_init : ByteArray := prog_6_method_1_code
def yX4_init : MethodName := ⟨RX4, "<init>", "()V"⟩
abbrev cX4_note : ByteArray := prog_6_method_2_code
def yX4_note : MethodName := ⟨RX4, "note", "(II)Z"⟩
abbrev cX4_dropAll : ByteArray := prog_6_method_3_code
def yX4_dropAll : MethodName := ⟨RX4, "dropAll", "()I"⟩
abbrev cX4_fitting : ByteArray := prog_6_method_4_code
def yX4_fitting : MethodName := ⟨RX4, "fitting", "(LSceneShots$Scene;)I"⟩
abbrev cX4_fits : ByteArray := prog_6_method_5_code
def yX4_fits : MethodName := ⟨RX4, "fits", "(LSceneShots$Scene;I)Z"⟩
abbrev cX4_look : ByteArray := prog_6_method_6_code
def yX4_look : MethodName := ⟨RX4, "look", "(LSceneShots$Scene;II)I"⟩
def RX5 : String := "SceneShots"
def TX5 : u_T := fun k => match k with
  | 0 => ("SceneShots", "scene", "LSceneShots$Scene;", true)
  | 1 => ("SceneShots", "draft", "LSceneShots$Scene;", true)
  | 2 => ("SceneShots", "past", "LSceneShots$Past;", true)
  | 3 => ("SceneShots", "reader", "LSceneShots$Reader;", true)
  | 4 => ("SceneShots", "planner", "LSceneShots$Planner;", true)
  | 5 => ("SceneShots", "sights", "LSceneShots$Sights;", true)
  | 6 => ("SceneShots", "images", "[LSceneShots$Scene;", true)
  | _ => ("SceneShots", "kept", "[Z", true)
def tyX5 : Nat → FieldType := fun k => match k with
  | 0 => .object "SceneShots$Scene"
  | 1 => .object "SceneShots$Scene"
  | 2 => .object "SceneShots$Past"
  | 3 => .object "SceneShots$Reader"
  | 4 => .object "SceneShots$Planner"
  | 5 => .object "SceneShots$Sights"
  | 6 => .array (.object "SceneShots$Scene")
  | _ => .array .boolean
theorem nmX5 : ∀ a, a < 8 → ∀ b, b < 8 → a ≠ b → (TX5 a).2.1 ≠ (TX5 b).2.1 := by decide +kernel
theorem tyX5_ok : ∀ k, k < 8 → parseFieldDescriptor (TX5 k).2.2.1 = some (tyX5 k) := by decide +kernel
abbrev cX5_init : ByteArray := prog_1_method_1_code
def yX5_init : MethodName := ⟨RX5, "<init>", "()V"⟩
abbrev cX5_type : ByteArray := prog_1_method_2_code
def yX5_type : MethodName := ⟨RX5, "type", "(I)I"⟩
abbrev cX5_clear : ByteArray := prog_1_method_3_code
def yX5_clear : MethodName := ⟨RX5, "clear", "()I"⟩
abbrev cX5_tells : ByteArray := prog_1_method_4_code
def yX5_tells : MethodName := ⟨RX5, "tells", "()I"⟩
abbrev cX5_puts : ByteArray := prog_1_method_5_code
def yX5_puts : MethodName := ⟨RX5, "puts", "(II)I"⟩
abbrev cX5_takes : ByteArray := prog_1_method_6_code
def yX5_takes : MethodName := ⟨RX5, "takes", "(I)I"⟩
abbrev cX5_strikes : ByteArray := prog_1_method_7_code
def yX5_strikes : MethodName := ⟨RX5, "strikes", "(I)I"⟩
abbrev cX5_makes : ByteArray := prog_1_method_8_code
def yX5_makes : MethodName := ⟨RX5, "makes", "()I"⟩
abbrev cX5_undo : ByteArray := prog_1_method_9_code
def yX5_undo : MethodName := ⟨RX5, "undo", "()I"⟩
abbrev cX5_line : ByteArray := prog_1_method_10_code
def yX5_line : MethodName := ⟨RX5, "line", "(II)I"⟩
abbrev cX5_shot : ByteArray := prog_1_method_11_code
def yX5_shot : MethodName := ⟨RX5, "shot", "(II)I"⟩
abbrev cX5_player : ByteArray := prog_1_method_12_code
def yX5_player : MethodName := ⟨RX5, "player", "(II)I"⟩
abbrev cX5_edit : ByteArray := prog_1_method_13_code
def yX5_edit : MethodName := ⟨RX5, "edit", "(I)I"⟩
abbrev cX5_best : ByteArray := prog_1_method_14_code
def yX5_best : MethodName := ⟨RX5, "best", "(I)I"⟩
abbrev cX5_cheapest : ByteArray := prog_1_method_15_code
def yX5_cheapest : MethodName := ⟨RX5, "cheapest", "(I)I"⟩
abbrev cX5_needed : ByteArray := prog_1_method_16_code
def yX5_needed : MethodName := ⟨RX5, "needed", "()I"⟩
abbrev cX5_sees : ByteArray := prog_1_method_17_code
def yX5_sees : MethodName := ⟨RX5, "sees", "(II)I"⟩
abbrev cX5_forget : ByteArray := prog_1_method_18_code
def yX5_forget : MethodName := ⟨RX5, "forget", "()I"⟩
abbrev cX5_which : ByteArray := prog_1_method_19_code
def yX5_which : MethodName := ⟨RX5, "which", "(I)I"⟩
abbrev cX5_keep : ByteArray := prog_1_method_20_code
def yX5_keep : MethodName := ⟨RX5, "keep", "(I)I"⟩
abbrev cX5_back : ByteArray := prog_1_method_21_code
def yX5_back : MethodName := ⟨RX5, "back", "(I)I"⟩
abbrev cX5_count : ByteArray := prog_1_method_22_code
def yX5_count : MethodName := ⟨RX5, "count", "(I)I"⟩
def RX6 : String := "SceneShotsModel"
def TX6 : u_T := fun k => match k with
  | 0 => ("SceneShotsModel", "now", "[I", true)
  | 1 => ("SceneShotsModel", "read", "[I", true)
  | 2 => ("SceneShotsModel", "past", "[I", true)
  | 3 => ("SceneShotsModel", "deeds", "I", false)
  | 4 => ("SceneShotsModel", "images", "[I", true)
  | 5 => ("SceneShotsModel", "isKept", "[Z", true)
  | 6 => ("SceneShotsModel", "text", "[I", true)
  | 7 => ("SceneShotsModel", "letters", "I", false)
  | 8 => ("SceneShotsModel", "at", "I", false)
  | 9 => ("SceneShotsModel", "token", "I", false)
  | 10 => ("SceneShotsModel", "tokenAt", "I", false)
  | 11 => ("SceneShotsModel", "seenWhat", "[I", true)
  | 12 => ("SceneShotsModel", "seenIs", "[I", true)
  | 13 => ("SceneShotsModel", "seen", "I", false)
  | 14 => ("SceneShotsModel", "arePlayersTold", "Z", false)
  | 15 => ("SceneShotsModel", "areLinesTold", "Z", false)
  | 16 => ("SceneShotsModel", "items", "I", false)
  | 17 => ("SceneShotsModel", "cuts", "[I", true)
  | 18 => ("SceneShotsModel", "way", "[I", true)
  | 19 => ("SceneShotsModel", "wayCuts", "I", false)
  | 20 => ("SceneShotsModel", "best", "[I", true)
  | 21 => ("SceneShotsModel", "bestCuts", "I", false)
  | _ => ("SceneShotsModel", "bestShots", "I", false)
def tyX6 : Nat → FieldType := fun k => match k with
  | 0 => .array .int
  | 1 => .array .int
  | 2 => .array .int
  | 3 => .int
  | 4 => .array .int
  | 5 => .array .boolean
  | 6 => .array .int
  | 7 => .int
  | 8 => .int
  | 9 => .int
  | 10 => .int
  | 11 => .array .int
  | 12 => .array .int
  | 13 => .int
  | 14 => .boolean
  | 15 => .boolean
  | 16 => .int
  | 17 => .array .int
  | 18 => .array .int
  | 19 => .int
  | 20 => .array .int
  | 21 => .int
  | _ => .int
theorem nmX6 : ∀ a, a < 23 → ∀ b, b < 23 → a ≠ b → (TX6 a).2.1 ≠ (TX6 b).2.1 := by decide +kernel
theorem tyX6_ok : ∀ k, k < 23 → parseFieldDescriptor (TX6 k).2.2.1 = some (tyX6 k) := by decide +kernel
abbrev cX6_init : ByteArray := prog_8_method_1_code
def yX6_init : MethodName := ⟨RX6, "<init>", "()V"⟩
abbrev cX6_in : ByteArray := prog_8_method_2_code
def yX6_in : MethodName := ⟨RX6, "in", "(III)Z"⟩
abbrev cX6_bring : ByteArray := prog_8_method_3_code
def yX6_bring : MethodName := ⟨RX6, "bring", "([II[II)V"⟩
abbrev cX6_note : ByteArray := prog_8_method_4_code
def yX6_note : MethodName := ⟨RX6, "note", "()V"⟩
abbrev cX6_beginRead : ByteArray := prog_8_method_5_code
def yX6_beginRead : MethodName := ⟨RX6, "beginRead", "()V"⟩
abbrev cX6_isLetter : ByteArray := prog_8_method_6_code
def yX6_isLetter : MethodName := ⟨RX6, "isLetter", "(I)Z"⟩
abbrev cX6_isFigure : ByteArray := prog_8_method_7_code
def yX6_isFigure : MethodName := ⟨RX6, "isFigure", "(I)Z"⟩
abbrev cX6_wordFrom : ByteArray := prog_8_method_8_code
def yX6_wordFrom : MethodName := ⟨RX6, "wordFrom", "(II)J"⟩
abbrev cX6_next : ByteArray := prog_8_method_9_code
def yX6_next : MethodName := ⟨RX6, "next", "()V"⟩
abbrev cX6_figure : ByteArray := prog_8_method_10_code
def yX6_figure : MethodName := ⟨RX6, "figure", "(II)I"⟩
abbrev cX6_isEnded : ByteArray := prog_8_method_11_code
def yX6_isEnded : MethodName := ⟨RX6, "isEnded", "()Z"⟩
abbrev cX6_readPlayers : ByteArray := prog_8_method_12_code
def yX6_readPlayers : MethodName := ⟨RX6, "readPlayers", "()Z"⟩
abbrev cX6_readLines : ByteArray := prog_8_method_13_code
def yX6_readLines : MethodName := ⟨RX6, "readLines", "()Z"⟩
abbrev cX6_readShot : ByteArray := prog_8_method_14_code
def yX6_readShot : MethodName := ⟨RX6, "readShot", "()Z"⟩
abbrev cX6_readText : ByteArray := prog_8_method_15_code
def yX6_readText : MethodName := ⟨RX6, "readText", "()I"⟩
abbrev cX6_type : ByteArray := prog_8_method_16_code
def yX6_type : MethodName := ⟨RX6, "type", "(I)I"⟩
abbrev cX6_clear : ByteArray := prog_8_method_17_code
def yX6_clear : MethodName := ⟨RX6, "clear", "()I"⟩
abbrev cX6_tells : ByteArray := prog_8_method_18_code
def yX6_tells : MethodName := ⟨RX6, "tells", "()I"⟩
abbrev cX6_of : ByteArray := prog_8_method_19_code
def yX6_of : MethodName := ⟨RX6, "of", "(II)I"⟩
abbrev cX6_isLine : ByteArray := prog_8_method_20_code
def yX6_isLine : MethodName := ⟨RX6, "isLine", "(I)Z"⟩
abbrev cX6_isShot : ByteArray := prog_8_method_21_code
def yX6_isShot : MethodName := ⟨RX6, "isShot", "(I)Z"⟩
abbrev cX6_sideOf : ByteArray := prog_8_method_22_code
def yX6_sideOf : MethodName := ⟨RX6, "sideOf", "(I)I"⟩
abbrev cX6_wayOf : ByteArray := prog_8_method_23_code
def yX6_wayOf : MethodName := ⟨RX6, "wayOf", "(II)I"⟩
abbrev cX6_areNear : ByteArray := prog_8_method_24_code
def yX6_areNear : MethodName := ⟨RX6, "areNear", "(II)Z"⟩
abbrev cX6_canCut : ByteArray := prog_8_method_25_code
def yX6_canCut : MethodName := ⟨RX6, "canCut", "(II)Z"⟩
abbrev cX6_covers : ByteArray := prog_8_method_26_code
def yX6_covers : MethodName := ⟨RX6, "covers", "(II)Z"⟩
abbrev cX6_isReaction : ByteArray := prog_8_method_27_code
def yX6_isReaction : MethodName := ⟨RX6, "isReaction", "(II)Z"⟩
abbrev cX6_mayFollow : ByteArray := prog_8_method_28_code
def yX6_mayFollow : MethodName := ⟨RX6, "mayFollow", "(III)Z"⟩
abbrev cX6_findCuts : ByteArray := prog_8_method_29_code
def yX6_findCuts : MethodName := ⟨RX6, "findCuts", "(I)V"⟩
abbrev cX6_findWay : ByteArray := prog_8_method_30_code
def yX6_findWay : MethodName := ⟨RX6, "findWay", "(I)Z"⟩
abbrev cX6_ones : ByteArray := prog_8_method_31_code
def yX6_ones : MethodName := ⟨RX6, "ones", "(I)I"⟩
abbrev cX6_isBefore : ByteArray := prog_8_method_32_code
def yX6_isBefore : MethodName := ⟨RX6, "isBefore", "()Z"⟩
abbrev cX6_findBest : ByteArray := prog_8_method_33_code
def yX6_findBest : MethodName := ⟨RX6, "findBest", "()Z"⟩
abbrev cX6_puts : ByteArray := prog_8_method_34_code
def yX6_puts : MethodName := ⟨RX6, "puts", "(II)I"⟩
abbrev cX6_takes : ByteArray := prog_8_method_35_code
def yX6_takes : MethodName := ⟨RX6, "takes", "(I)I"⟩
abbrev cX6_strikes : ByteArray := prog_8_method_36_code
def yX6_strikes : MethodName := ⟨RX6, "strikes", "(I)I"⟩
abbrev cX6_makes : ByteArray := prog_8_method_37_code
def yX6_makes : MethodName := ⟨RX6, "makes", "()I"⟩
abbrev cX6_undo : ByteArray := prog_8_method_38_code
def yX6_undo : MethodName := ⟨RX6, "undo", "()I"⟩
abbrev cX6_coversOf : ByteArray := prog_8_method_39_code
def yX6_coversOf : MethodName := ⟨RX6, "coversOf", "(I)I"⟩
abbrev cX6_line : ByteArray := prog_8_method_40_code
def yX6_line : MethodName := ⟨RX6, "line", "(II)I"⟩
abbrev cX6_cutsOf : ByteArray := prog_8_method_41_code
def yX6_cutsOf : MethodName := ⟨RX6, "cutsOf", "(I)I"⟩
abbrev cX6_shot : ByteArray := prog_8_method_42_code
def yX6_shot : MethodName := ⟨RX6, "shot", "(II)I"⟩
abbrev cX6_player : ByteArray := prog_8_method_43_code
def yX6_player : MethodName := ⟨RX6, "player", "(II)I"⟩
abbrev cX6_edit : ByteArray := prog_8_method_44_code
def yX6_edit : MethodName := ⟨RX6, "edit", "(I)I"⟩
abbrev cX6_best : ByteArray := prog_8_method_45_code
def yX6_best : MethodName := ⟨RX6, "best", "(I)I"⟩
abbrev cX6_dearOf : ByteArray := prog_8_method_46_code
def yX6_dearOf : MethodName := ⟨RX6, "dearOf", "(I)F"⟩
abbrev cX6_cheapest : ByteArray := prog_8_method_47_code
def yX6_cheapest : MethodName := ⟨RX6, "cheapest", "(I)I"⟩
abbrev cX6_needed : ByteArray := prog_8_method_48_code
def yX6_needed : MethodName := ⟨RX6, "needed", "()I"⟩
abbrev cX6_sees : ByteArray := prog_8_method_49_code
def yX6_sees : MethodName := ⟨RX6, "sees", "(II)I"⟩
abbrev cX6_forget : ByteArray := prog_8_method_50_code
def yX6_forget : MethodName := ⟨RX6, "forget", "()I"⟩
abbrev cX6_isSo : ByteArray := prog_8_method_51_code
def yX6_isSo : MethodName := ⟨RX6, "isSo", "(I)Z"⟩
abbrev cX6_which : ByteArray := prog_8_method_52_code
def yX6_which : MethodName := ⟨RX6, "which", "(I)I"⟩
abbrev cX6_keep : ByteArray := prog_8_method_53_code
def yX6_keep : MethodName := ⟨RX6, "keep", "(I)I"⟩
abbrev cX6_back : ByteArray := prog_8_method_54_code
def yX6_back : MethodName := ⟨RX6, "back", "(I)I"⟩
abbrev cX6_count : ByteArray := prog_8_method_55_code
def yX6_count : MethodName := ⟨RX6, "count", "(I)I"⟩
def RJ6 : String := "java/lang/Integer"
def TJ6 : u_T := fun k => match k with
  | _ => ("", "", "", false)
def tyJ6 : Nat → FieldType := fun k => match k with
  | _ => .int
theorem nmJ6 : ∀ a, a < 0 → ∀ b, b < 0 → a ≠ b → (TJ6 a).2.1 ≠ (TJ6 b).2.1 := by decide +kernel
theorem tyJ6_ok : ∀ k, k < 0 → parseFieldDescriptor (TJ6 k).2.2.1 = some (tyJ6 k) := by decide +kernel
abbrev cJ6_numberOfTrailingZeros_0f7a4 : ByteArray := prog_9_method_48_code
def yJ6_numberOfTrailingZeros_0f7a4 : MethodName := ⟨RJ6, "numberOfTrailingZeros", "(I)I"⟩
abbrev cJ6_bitCount_0f7a4 : ByteArray := prog_9_method_49_code
def yJ6_bitCount_0f7a4 : MethodName := ⟨RJ6, "bitCount", "(I)I"⟩
abbrev cJ6_signum_0f7a4 : ByteArray := prog_9_method_56_code
def yJ6_signum_0f7a4 : MethodName := ⟨RJ6, "signum", "(I)I"⟩
def RJ9 : String := "java/lang/Math"
def TJ9 : u_T := fun k => match k with
  | _ => ("", "", "", false)
def tyJ9 : Nat → FieldType := fun k => match k with
  | _ => .int
theorem nmJ9 : ∀ a, a < 0 → ∀ b, b < 0 → a ≠ b → (TJ9 a).2.1 ≠ (TJ9 b).2.1 := by decide +kernel
theorem tyJ9_ok : ∀ k, k < 0 → parseFieldDescriptor (TJ9 k).2.2.1 = some (tyJ9 k) := by decide +kernel
abbrev cJ9_abs_0f7a4 : ByteArray := prog_10_method_59_code
def yJ9_abs_0f7a4 : MethodName := ⟨RJ9, "abs", "(I)I"⟩
abbrev cJ9_min_7cf53 : ByteArray := prog_10_method_69_code
def yJ9_min_7cf53 : MethodName := ⟨RJ9, "min", "(II)I"⟩
def RJ0 : String := "java/lang/String"
def TJ0 : u_T := fun k => match k with
  | _ => ("", "", "", false)
def tyJ0 : Nat → FieldType := fun k => match k with
  | _ => .int
theorem nmJ0 : ∀ a, a < 0 → ∀ b, b < 0 → a ≠ b → (TJ0 a).2.1 ≠ (TJ0 b).2.1 := by decide +kernel
theorem tyJ0_ok : ∀ k, k < 0 → parseFieldDescriptor (TJ0 k).2.2.1 = some (tyJ0 k) := by decide +kernel
abbrev cJ0_length_8abf5 : ByteArray := prog_11_method_54_code
def yJ0_length_8abf5 : MethodName := ⟨RJ0, "length", "()I"⟩
abbrev cJ0_charAt_5068e : ByteArray := prog_11_method_56_code
def yJ0_charAt_5068e : MethodName := ⟨RJ0, "charAt", "(I)C"⟩
abbrev cJ0_coder_7d493 : ByteArray := prog_11_method_152_code
def yJ0_coder_7d493 : MethodName := ⟨RJ0, "coder", "()B"⟩
abbrev cJ0_isLatin1_aae02 : ByteArray := prog_11_method_154_code
def yJ0_isLatin1_aae02 : MethodName := ⟨RJ0, "isLatin1", "()Z"⟩
abbrev cJ0_checkIndex_df160 : ByteArray := prog_11_method_155_code
def yJ0_checkIndex_df160 : MethodName := ⟨RJ0, "checkIndex", "(II)V"⟩
def RJ1 : String := "java/lang/StringLatin1"
def TJ1 : u_T := fun k => match k with
  | _ => ("", "", "", false)
def tyJ1 : Nat → FieldType := fun k => match k with
  | _ => .int
theorem nmJ1 : ∀ a, a < 0 → ∀ b, b < 0 → a ≠ b → (TJ1 a).2.1 ≠ (TJ1 b).2.1 := by decide +kernel
theorem tyJ1_ok : ∀ k, k < 0 → parseFieldDescriptor (TJ1 k).2.2.1 = some (tyJ1 k) := by decide +kernel
abbrev cJ1_charAt_3b067 : ByteArray := prog_12_method_2_code
def yJ1_charAt_3b067 : MethodName := ⟨RJ1, "charAt", "([BI)C"⟩
def RJ2 : String := "java/lang/StringUTF16"
def TJ2 : u_T := fun k => match k with
  | _ => ("", "", "", false)
def tyJ2 : Nat → FieldType := fun k => match k with
  | _ => .int
theorem nmJ2 : ∀ a, a < 0 → ∀ b, b < 0 → a ≠ b → (TJ2 a).2.1 ≠ (TJ2 b).2.1 := by decide +kernel
theorem tyJ2_ok : ∀ k, k < 0 → parseFieldDescriptor (TJ2 k).2.2.1 = some (tyJ2 k) := by decide +kernel
abbrev cJ2_getChar_3b067 : ByteArray := prog_13_method_5_code
def yJ2_getChar_3b067 : MethodName := ⟨RJ2, "getChar", "([BI)C"⟩
abbrev cJ2_length_9d52b : ByteArray := prog_13_method_6_code
def yJ2_length_9d52b : MethodName := ⟨RJ2, "length", "([B)I"⟩
abbrev cJ2_charAt_3b067 : ByteArray := prog_13_method_83_code
def yJ2_charAt_3b067 : MethodName := ⟨RJ2, "charAt", "([BI)C"⟩
abbrev cJ2_checkIndex_2214a : ByteArray := prog_13_method_91_code
def yJ2_checkIndex_2214a : MethodName := ⟨RJ2, "checkIndex", "(I[B)V"⟩
def RJ10 : String := "java/lang/System"
def TJ10 : u_T := fun k => match k with
  | _ => ("", "", "", false)
def tyJ10 : Nat → FieldType := fun k => match k with
  | _ => .int
theorem nmJ10 : ∀ a, a < 0 → ∀ b, b < 0 → a ≠ b → (TJ10 a).2.1 ≠ (TJ10 b).2.1 := by decide +kernel
theorem tyJ10_ok : ∀ k, k < 0 → parseFieldDescriptor (TJ10 k).2.2.1 = some (tyJ10 k) := by decide +kernel
def RJ3 : String := "jdk/internal/util/Preconditions"
def TJ3 : u_T := fun k => match k with
  | _ => ("", "", "", false)
def tyJ3 : Nat → FieldType := fun k => match k with
  | _ => .int
theorem nmJ3 : ∀ a, a < 0 → ∀ b, b < 0 → a ≠ b → (TJ3 a).2.1 ≠ (TJ3 b).2.1 := by decide +kernel
theorem tyJ3_ok : ∀ k, k < 0 → parseFieldDescriptor (TJ3 k).2.2.1 = some (tyJ3 k) := by decide +kernel
abbrev cJ3_checkIndex_8e157 : ByteArray := prog_15_method_11_code
def yJ3_checkIndex_8e157 : MethodName := ⟨RJ3, "checkIndex", "(IILjava/util/function/BiFunction;)I"⟩
def RL : String := "SceneShotsLaw"
abbrev cL_law : ByteArray := code
def yL_law : MethodName := ⟨RL, "law", "([I)Z"⟩
abbrev vwCl : List vw_C := [(RX0, TX0, 3), (RX1, TX1, 11), (RX2, TX2, 7), (RX3, TX3, 6), (RX4, TX4, 3), (RX5, TX5, 8), (RX6, TX6, 23)]
end
section
/-! ===== an abstract machine over places: AW is the kit's W, said of places instead of addresses ===== -/
abbrev AH : Type := List va_E
abbrev Glob : Type := Launch × State × (Nat → Nat) × va_G × (Nat → ClassId) × Nat × (Nat → Int32)
def g_l (g : Glob) : Launch := g.1
def g_s (g : Glob) : State := g.2.1
def g_a (g : Glob) : Nat → Nat := g.2.2.1
def g_D (g : Glob) : va_G := g.2.2.2.1
def g_c (g : Glob) : Nat → ClassId := g.2.2.2.2.1
def g_L (g : Glob) : Nat := g.2.2.2.2.2.1
def g_x (g : Glob) : Nat → Int32 := g.2.2.2.2.2.2
def g_A (g : Glob) : Nat → Prop := fun q => (g_s g).heap.size ≤ q
/-- the words that stay -/
def lw_g : List Cond := lw_tbl.filter goodWord
/-- an instruction: its place, length, itself, three numbers and an int that say what it links -/
abbrev En : Type := Nat × Nat × Instr × Nat × Nat × Nat × Int32
/-- a method: name, class, bytes, locals, answer, (depth, cells, slots), places of its words, heads of loops, rows, parameters -/
abbrev Mth : Type := MethodName × String × ByteArray × Nat × Option FieldType × (Nat × Nat × Nat) × (Nat × Nat × Nat × Nat) × List Nat × List En × Nat
def m_y (M : Mth) : MethodName := M.1
def m_own (M : Mth) : String := M.2.1
def m_cc (M : Mth) : ByteArray := M.2.2.1
def m_nL (M : Mth) : Nat := M.2.2.2.1
def m_ret (M : Mth) : Option FieldType := M.2.2.2.2.1
def m_dep (M : Mth) : Nat := M.2.2.2.2.2.1.1
def m_mc (M : Mth) : Nat := M.2.2.2.2.2.1.2.1
def m_ms (M : Mth) : Nat := M.2.2.2.2.2.1.2.2
def m_wx (M : Mth) : Nat × Nat × Nat × Nat := M.2.2.2.2.2.2.1
def m_stops (M : Mth) : List Nat := M.2.2.2.2.2.2.2.1
def m_code (M : Mth) : List En := M.2.2.2.2.2.2.2.2.1
def m_np (M : Mth) : Nat := M.2.2.2.2.2.2.2.2.2
def m_room (M : Mth) : Room := { frames := m_dep M, cells := m_mc M, slots := m_ms M, locals := 40 * m_dep M }
def m_ws (M : Mth) : List Cond := Cond.code (m_y M) (m_cc M) (m_nL M) (m_ret M) :: lw_g
/-- places below 1000 are cells of the world, others cells that never change -/
def trR (g : Glob) (al : Nat → Nat) (k : Nat) : Nat := if k < 1000 then al k else g_a g k
def trV (g : Glob) (al : Nat → Nat) (v : Value) : Value := match v with
  | .ref k => .ref (trR g al k)
  | w => w
def trC (g : Glob) (al : Nat → Nat) (n : Nat) (c : (Nat → Int32) ⊕ (Nat → Int64) ⊕ (Nat → UInt32) ⊕ (Nat → UInt64) ⊕ (Nat → Option Nat)) : (Nat → Int32) ⊕ (Nat → Int64) ⊕ (Nat → UInt32) ⊕ (Nat → UInt64) ⊕ (Nat → Option Nat) := match c with
  | .inr (.inr (.inr (.inr f))) => .inr (.inr (.inr (.inr (fun i => if i < n then (f i).map (trR g al) else none))))
  | c => c
def trE (g : Glob) (al : Nat → Nat) (e : va_E) : va_E := match e with
  | .inl (t, n, c) => .inl (g_c g t, n, trC g al n c)
  | .inr (ci, fs) => .inr (ci, fs.map (trV g al))
def trW (g : Glob) (al : Nat → Nat) (h : AH) : va_W := h.mapIdx (fun k e => (al k, trE g al e))
abbrev tys (g : Glob) : List (ClassId × FieldType) := [(g_c g 0, .int), (g_c g 1, .boolean), (g_c g 2, .object "SceneShots$Scene"), (g_c g 3, .array .int)]
/-- rows that never change -/
def roI (g : Glob) (k : Nat) : Option (Nat × (Nat → Int32)) := match k with
  | 1003 => some (7, fun j => [0, 0, 0, 1, 0, 0, 1].getD j 0)
  | 1004 => some (7, fun j => [9, 9, 2, 5, 7, 7, 9].getD j 0)
  | 1005 => some (g_L g, g_x g)
  | _ => none
def roB (k : Nat) : Option (Nat × (Nat → Int32)) := match k with
  | 1010 => some (7, fun j => [112, 108, 97, 121, 101, 114, 115].getD j 0)
  | 1011 => some (5, fun j => [108, 105, 110, 101, 115].getD j 0)
  | 1012 => some (4, fun j => [115, 104, 111, 116].getD j 0)
  | _ => none
/-- the literals' own fields -/
def roF (k b : Nat) : Option Value := match k, b with
  | 1000, 0 => some (.ref 1010)
  | 1001, 0 => some (.ref 1011)
  | 1002, 0 => some (.ref 1012)
  | 1000, 1 => some (.int 0)
  | 1001, 1 => some (.int 0)
  | 1002, 1 => some (.int 0)
  | _, _ => none
def g_O (g : Glob) (k : Nat) (j : Nat) : Prop := va_O "java/lang/String" (g_a g k) (g_A g) (g_s g) (g_s g).heap ∧ va_OF "java/lang/String" "value" "[B" (.ref (g_a g j)) (g_a g k) (g_A g) (g_s g) (g_s g).heap ∧ va_OF "java/lang/String" "coder" "B" (.int 0) (g_a g k) (g_A g) (g_s g) (g_s g).heap
def g_Z (g : Glob) (C n d : String) (v : Value) : Prop := va_Z C n d v (g_A g) (g_s g) (g_s g).heap
/-- what is known of the start -/
def GOK (g : Glob) : Prop :=
  va_K (g_D g) vwCl (tys g) (g_s g) ∧
  (∀ (k N : Nat) (f : Nat → Int32), roI g k = some (N, f) → va_T .int (g_a g k) N (fun j => .int (f j)) (g_A g) (g_s g) (g_s g).heap) ∧
  (∀ (k N : Nat) (f : Nat → Int32), roB k = some (N, f) → va_T .byte (g_a g k) N (fun j => .int (f j)) (g_A g) (g_s g) (g_s g).heap) ∧
  (g_O g 1000 1010 ∧ g_O g 1001 1011 ∧ g_O g 1002 1012) ∧
  (g_Z g "SceneShots" "LOWEST" "[I" (.ref (g_a g 1003)) ∧ g_Z g "SceneShots" "HIGHEST" "[I" (.ref (g_a g 1004))) ∧
  g_Z g "java/lang/String" "COMPACT_STRINGS" "Z" (.int 1) ∧
  (g_Z g "jdk/internal/util/Preconditions" "SIOOBE_FORMATTER" "Ljava/util/function/BiFunction;" .null ∨ g_Z g "jdk/internal/util/Preconditions" "SIOOBE_FORMATTER" "Ljava/util/function/BiFunction;" (.ref (g_a g 1020))) ∧
  (vk_R "SceneShots$Reader" 47 "players" (g_a g 1000) (g_s g) ∧ vk_R "SceneShots$Reader" 56 "lines" (g_a g 1001) (g_s g) ∧ vk_R "SceneShots$Reader" 61 "shot" (g_a g 1002) (g_s g) ∧ va_AO "SceneShots$Scene" (g_s g) ∧ (Cond.arrayOver (.array .int)).before #[] (g_s g) = true) ∧
  (∀ w ∈ lw_tbl, w.onTables = true → va_Nw w (g_s g))
/-- a state of a method's start that stands behind the start -/
def Bh (g : Glob) (s : State) : Prop := GOK g ∧ (g_s g).heap.size ≤ s.heap.size ∧ (∀ q : Nat, q < (g_s g).heap.size → s.heap[q]? = (g_s g).heap[q]?) ∧ (g_s g).WarmedH s.vm
def Cx (g : Glob) (M : Mth) (p : Program) (s : State) (m : MethodId) (args : Array Value) (meth : Method) (c : Code) : Prop :=
  p.tables.exec = Jvm.exec ∧ c.code = m_cc M ∧ meth.sig.returnType = m_ret M ∧ c.maxLocals = m_nL M ∧ s.vm.findClass (m_own M) = some m.cls ∧ (∀ w ∈ lw_g, w.before args s = true) ∧ meth.locks = false ∧ meth.name = (m_y M).name ∧ Bh g s
/-- the locals hold what is listed -/
def LH (g : Glob) (al : Nat → Nat) (lsA : Array Slot) (nL : Nat) (ls : List (Option Value)) : Prop := lsA.size = nL ∧ lv_wf lsA ∧ ∀ (k : Nat) (v : Value), ls[k]? = some (some v) → lsA[k]? = some (.val (trV g al v))
def Wd (g : Glob) (al : Nat → Nat) (h : AH) (s : State) (H : Heap) (locs : List Loc) : Prop := va_P (g_D g) vwCl (trW g al h) H ∧ va_D (g_A g) (trW g al h) ∧ va_S (g_A g) s.heap H locs
def agr (M : Mth) (al0 : Nat → Nat) (n0 : Nat) (al : Nat → Nat) (n : Nat) : Prop := (m_mc M = 0 → al = al0) ∧ (∀ k, k < n0 → al k = al0 k) ∧ n0 ≤ n
/-- a method's end -/
def QC (g : Glob) (M : Mth) (Post : Option Value → AH → Prop) (al0 : Nat → Nat) (n0 : Nat) : Array Value → State → Outcome → State → Prop := fun _ st oc t =>
  ∃ (rv : Option Value) (h' : AH) (al' : Nat → Nat), oc = .returned (rv.map (trV g al')) ∧ Post rv h' ∧ agr M al0 n0 al' h'.length ∧ va_P (g_D g) vwCl (trW g al' h') t.heap ∧ va_D (g_A g) (trW g al' h') ∧ va_F (g_A g) st t
/-- the machine, at pc with these locals, stack and cells, comes to the method's end with Post -/
def AW (g : Glob) (M : Mth) (Post : Option Value → AH → Prop) (cl sl pc : Nat) (ls : List (Option Value)) (st : List Value) (h : AH) : Prop :=
  ∀ (p : Program) (e : Env) (s : State) (m : MethodId) (args : Array Value) (below : List Frame) (meth : Method) (c : Code) (H : Heap) (locs : List Loc) (lsA : Array Slot) (al0 : Nat → Nat) (n0 : Nat) (al : Nat → Nat),
    Cx g M p s m args meth c → agr M al0 n0 al h.length → Wd g al h s H locs → LH g al lsA (m_nL M) ls →
    W p (g_l g) e (m_room M) s m args below meth c H locs cl sl (MQ below (QC g M Post al0 n0) args s (m_mc M) (m_ms M) (g_A g)) (F0 m pc lsA (st.map (trV g al)))
def PU (g : Glob) (al : Nat → Nat) (h : AH) (U : State) : Prop := Bh g U ∧ va_P (g_D g) vwCl (trW g al h) U.heap ∧ va_D (g_A g) (trW g al h)
/-- a method's contract -/
def AC (g : Glob) (M : Mth) (args : List Value) (h : AH) (Post : Option Value → AH → Prop) : Prop :=
  ∀ al : Nat → Nat, Met (g_l g) (m_y M) (m_ws M) (m_room M) (va_Pc (args.map (trV g al)) (PU g al h)) (QC g M Post al h.length) (m_mc M) (m_ms M) (g_A g)
/-! helpers -/
def popN : Nat → List Value → List Value → Option (List Value × List Value)
  | 0, acc, st => some (acc, st)
  | n + 1, acc, v :: st => popN n (v :: acc) st
  | _ + 1, _, [] => none
theorem popN_eq : ∀ (n : Nat) (acc st As r : List Value), popN n acc st = some (As, r) → acc.reverse ++ st = As.reverse ++ r ∧ As.length = n + acc.length := by
  intro n
  induction n with
  | zero =>
    intro acc st As r h
    have h1 : some (acc, st) = some (As, r) := h
    cases h1
    exact ⟨rfl, by omega⟩
  | succ n ih =>
    intro acc st As r h
    cases st with
    | nil => cases h
    | cons v st =>
      obtain ⟨h1, h2⟩ := ih (v :: acc) st As r h
      refine ⟨?_, by rw [h2, List.length_cons]; omega⟩
      rw [← h1]
      simp
def hat (h : AH) (k : Nat) : Option va_E := match Nat.blt k 1000 with
  | true => h[k]?
  | false => none
def lget (ls : List (Option Value)) (k : Nat) : Option Value := match ls[k]? with
  | some o => o
  | none => none
def c2at (ls : List (Option Value)) (i : Nat) : Bool := match i with
  | 0 => false
  | j + 1 => match lget ls j with
    | some v => v.category == 2
    | none => false
def dropTo (t : Nat) : List En → List En
  | [] => []
  | e :: r => match Nat.beq e.1 t with
    | true => e :: r
    | false => dropTo t r
def okV (n : Nat) (v : Value) : Bool := match v with
  | .ref k => Nat.blt k n || Nat.ble 1000 k
  | _ => true
def okS (n : Nat) (st : List Value) : Bool := st.all (okV n)
def okL (n : Nat) (ls : List (Option Value)) : Bool := ls.all (fun o => match o with
  | some v => okV n v
  | none => true)
def okR (n : Nat) (o : Option Nat) : Bool := match o with
  | some k => Nat.blt k n || Nat.ble 1000 k
  | none => true
def okE (n : Nat) (e : va_E) : Bool := match e with
  | .inl (_, m, .inr (.inr (.inr (.inr f)))) => (List.range m).all (fun i => okR n (f i))
  | .inl _ => true
  | .inr (_, fs) => okS n fs
def okH (h : AH) : Bool := Nat.ble h.length 900 && h.all (okE h.length)
theorem lget_some {ls : List (Option Value)} {k : Nat} {v : Value} (h : lget ls k = some v) : ls[k]? = some (some v) := by
  unfold lget at h
  cases hk : ls[k]? with
  | none => rw [hk] at h; cases h
  | some o => rw [hk] at h; rw [show o = some v from h]
theorem hat_some {h : AH} {k : Nat} {e : va_E} (he : hat h k = some e) : k < 1000 ∧ h[k]? = some e := by
  unfold hat at he
  cases hb : Nat.blt k 1000 with
  | false => rw [hb] at he; cases he
  | true => rw [hb] at he; exact ⟨Nat.le_of_ble_eq_true hb, he⟩
theorem trR_lt {g : Glob} {al : Nat → Nat} {k : Nat} (h : k < 1000) : trR g al k = al k := if_pos h
theorem trR_ge {g : Glob} {al : Nat → Nat} {k : Nat} (h : ¬ k < 1000) : trR g al k = g_a g k := if_neg h
theorem trW_get {g : Glob} {al : Nat → Nat} {h : AH} {k : Nat} {e : va_E} (hk : h[k]? = some e) : (trW g al h)[k]? = some (al k, trE g al e) := by
  unfold trW
  rw [List.getElem?_mapIdx, hk]
  rfl
theorem trW_set {g : Glob} {al : Nat → Nat} {h : AH} {k : Nat} {e : va_E} : trW g al (h.set k e) = (trW g al h).set k (al k, trE g al e) := by
  apply List.ext_getElem?
  intro j
  unfold trW
  rw [List.getElem?_mapIdx, List.getElem?_set, List.getElem?_set, List.getElem?_mapIdx, List.length_mapIdx]
  by_cases hj : k = j
  · subst hj
    by_cases hl : k < h.length
    · simp [hl]
    · simp [hl]
  · simp [hj]
theorem trV_cat (g : Glob) (al : Nat → Nat) (v : Value) : (trV g al v).category = v.category := by cases v <;> rfl
def lvl (g : Glob) (al : Nat → Nat) (ls : List (Option Value)) : List (Nat × Value) := ls.zipIdx.filterMap (fun q => q.1.map (fun v => (q.2, trV g al v)))
theorem lvl_mem {g : Glob} {al : Nat → Nat} {ls : List (Option Value)} {k : Nat} {v : Value} (h : ls[k]? = some (some v)) : (k, trV g al v) ∈ lvl g al ls := by
  unfold lvl
  refine List.mem_filterMap.mpr ⟨(some v, k), ?_, rfl⟩
  exact List.mem_zipIdx_iff_getElem?.mpr h
theorem lvl_of {g : Glob} {al : Nat → Nat} {ls : List (Option Value)} {q : Nat × Value} (h : q ∈ lvl g al ls) : ∃ v, ls[q.1]? = some (some v) ∧ q.2 = trV g al v := by
  unfold lvl at h
  obtain ⟨⟨o, k⟩, h1, h2⟩ := List.mem_filterMap.mp h
  cases o with
  | none => cases h2
  | some v =>
    cases h2
    exact ⟨v, List.mem_zipIdx_iff_getElem?.mp h1, rfl⟩
theorem LH.has {g : Glob} {al : Nat → Nat} {lsA : Array Slot} {nL : Nat} {ls : List (Option Value)} (h : LH g al lsA nL ls) : lv_has lsA nL (lvl g al ls) := by
  refine ⟨h.1, h.2.1, fun q hq => ?_⟩
  obtain ⟨v, h1, h2⟩ := lvl_of hq
  rw [h2]
  exact h.2.2 _ _ h1
theorem LH.at {g : Glob} {al : Nat → Nat} {lsA : Array Slot} {nL : Nat} {ls : List (Option Value)} {k : Nat} {v : Value} (h : LH g al lsA nL ls) (hk : lget ls k = some v) : lsA[k]? = some (.val (trV g al v)) := h.2.2 _ _ (lget_some hk)
theorem c2at_cat {ls : List (Option Value)} {i k : Nat} {w : Value} (h : c2at ls i = false) (hk : k + 1 = i) (hw : ls[k]? = some (some w)) : w.category ≠ 2 := by
  subst hk
  intro hc
  have hg : lget ls k = some w := by unfold lget; rw [hw]
  simp [c2at, hg, hc] at h
/-- behind a store of one slot -/
theorem LH.set1 {g : Glob} {al : Nat → Nat} {ls' : Array Slot} {nL i : Nat} {ls : List (Option Value)} {v : Value} (hc : c2at ls i = false)
    (h : lv_has ls' nL ((i, trV g al v) :: (lvl g al ls).filter (fun q => !(q.1 == i) && !(q.1 + 1 == i && q.2.category == 2)))) : LH g al ls' nL (ls.set i (some v)) := by
  refine ⟨h.1, h.2.1, fun k w hk => ?_⟩
  rw [List.getElem?_set] at hk
  by_cases hi : i = k
  · subst hi
    rw [if_pos rfl] at hk
    split at hk
    · cases hk
      exact h.2.2 (i, trV g al v) List.mem_cons_self
    · cases hk
  · rw [if_neg hi] at hk
    refine h.2.2 (k, trV g al w) (List.mem_cons_of_mem _ (List.mem_filter.mpr ⟨lvl_mem hk, ?_⟩))
    have e1 : (k == i) = false := by simpa using fun z => hi z.symm
    by_cases hk1 : k + 1 = i
    · have hcw := c2at_cat hc hk1 hk
      have e2 : ((trV g al w).category == 2) = false := by rw [trV_cat]; simpa using hcw
      simp [e1, e2]
    · have e2 : (k + 1 == i) = false := by simpa using hk1
      simp [e1, e2]
theorem LH.set2 {g : Glob} {al : Nat → Nat} {ls' : Array Slot} {nL i : Nat} {ls : List (Option Value)} {v : Value} (hc : c2at ls i = false)
    (h : lv_has ls' nL ((i, trV g al v) :: (lvl g al ls).filter (fun q => !(q.1 == i) && (!(q.1 == i + 1) && !(q.1 + 1 == i && q.2.category == 2))))) : LH g al ls' nL ((ls.set i (some v)).set (i + 1) none) := by
  refine ⟨h.1, h.2.1, fun k w hk => ?_⟩
  rw [List.getElem?_set] at hk
  by_cases hj : i + 1 = k
  · rw [if_pos hj] at hk
    split at hk <;> cases hk
  rw [if_neg hj, List.getElem?_set] at hk
  by_cases hi : i = k
  · subst hi
    rw [if_pos rfl] at hk
    split at hk
    · cases hk
      exact h.2.2 (i, trV g al v) List.mem_cons_self
    · cases hk
  · rw [if_neg hi] at hk
    refine h.2.2 (k, trV g al w) (List.mem_cons_of_mem _ (List.mem_filter.mpr ⟨lvl_mem hk, ?_⟩))
    have e1 : (k == i) = false := by simpa using fun z => hi z.symm
    have e3 : (k == i + 1) = false := by simpa using fun z => hj z.symm
    by_cases hk1 : k + 1 = i
    · have hcw := c2at_cat hc hk1 hk
      have e2 : ((trV g al w).category == 2) = false := by rw [trV_cat]; simpa using hcw
      simp [e1, e2, e3]
    · have e2 : (k + 1 == i) = false := by simpa using hk1
      simp [e1, e2, e3]
theorem Bh.K {g : Glob} {s : State} (h : Bh g s) : va_K (g_D g) vwCl (tys g) s := va_K.moved h.2.2.2.alike h.1.1
theorem Bh.ke {g : Glob} {s : State} (h : Bh g s) : ∀ a : Nat, a < (g_s g).heap.size → ¬ g_A g a → s.heap[a]? = (g_s g).heap[a]? := fun a ha _ => h.2.2.1 a ha

theorem aw_iconst {g : Glob} {M : Mth} {Post : Option Value → AH → Prop} {cl sl pc : Nat} {ls : List (Option Value)} {st : List Value} {h : AH} {n : Int} {v : Int32} (hd : decode (m_cc M) pc = .ok (.iconst n, 1)) (hv : Int32.ofInt n = v) (K : AW g M Post cl sl (pc + 1) ls (.int v :: st) h) : AW g M Post cl sl pc ls (st) h := by
  intro p e s m args below meth c H locs lsA al0 n0 al C ha hw hl
  exact lv_iconst C.1 C.2.1 hd hv (K p e s m args below meth c H locs lsA al0 n0 al C ha hw hl)
theorem aw_bipush {g : Glob} {M : Mth} {Post : Option Value → AH → Prop} {cl sl pc : Nat} {ls : List (Option Value)} {st : List Value} {h : AH} {n : Int} {v : Int32} (hd : decode (m_cc M) pc = .ok (.bipush n, 2)) (hv : (Int8.ofInt n).toInt32 = v) (K : AW g M Post cl sl (pc + 2) ls (.int v :: st) h) : AW g M Post cl sl pc ls (st) h := by
  intro p e s m args below meth c H locs lsA al0 n0 al C ha hw hl
  exact lv_bipush C.1 C.2.1 hd hv (K p e s m args below meth c H locs lsA al0 n0 al C ha hw hl)
theorem aw_sipush {g : Glob} {M : Mth} {Post : Option Value → AH → Prop} {cl sl pc : Nat} {ls : List (Option Value)} {st : List Value} {h : AH} {n : Int} {v : Int32} (hd : decode (m_cc M) pc = .ok (.sipush n, 3)) (hv : (Int16.ofInt n).toInt32 = v) (K : AW g M Post cl sl (pc + 3) ls (.int v :: st) h) : AW g M Post cl sl pc ls (st) h := by
  intro p e s m args below meth c H locs lsA al0 n0 al C ha hw hl
  exact lv_sipush C.1 C.2.1 hd hv (K p e s m args below meth c H locs lsA al0 n0 al C ha hw hl)
theorem aw_lconst {g : Glob} {M : Mth} {Post : Option Value → AH → Prop} {cl sl pc : Nat} {ls : List (Option Value)} {st : List Value} {h : AH} {n : Fin 2} {v : Int64} (hd : decode (m_cc M) pc = .ok (.lconst n, 1)) (hv : Int64.ofNat (n : Nat) = v) (K : AW g M Post cl sl (pc + 1) ls (.long v :: st) h) : AW g M Post cl sl pc ls (st) h := by
  intro p e s m args below meth c H locs lsA al0 n0 al C ha hw hl
  exact lv_lconst C.1 C.2.1 hd hv (K p e s m args below meth c H locs lsA al0 n0 al C ha hw hl)
theorem aw_fconst0 {g : Glob} {M : Mth} {Post : Option Value → AH → Prop} {cl sl pc : Nat} {ls : List (Option Value)} {st : List Value} {h : AH}  (hd : decode (m_cc M) pc = .ok (.fconst 0, 1)) (K : AW g M Post cl sl (pc + 1) ls (.float FP.fconst0 :: st) h) : AW g M Post cl sl pc ls (st) h := by
  intro p e s m args below meth c H locs lsA al0 n0 al C ha hw hl
  exact lv_fconst0 C.1 C.2.1 hd (K p e s m args below meth c H locs lsA al0 n0 al C ha hw hl)
theorem aw_ldc {g : Glob} {M : Mth} {Post : Option Value → AH → Prop} {cl sl pc : Nat} {ls : List (Option Value)} {st : List Value} {h : AH} {idx : Nat} {v : Int32} (hd : decode (m_cc M) pc = .ok (.ldc idx, 2)) (hq : Cond.constant (m_own M) idx v ∈ lw_g) (K : AW g M Post cl sl (pc + 2) ls (.int v :: st) h) : AW g M Post cl sl pc ls (st) h := by
  intro p e s m args below meth c H locs lsA al0 n0 al C ha hw hl
  exact lv_ldc C.1 C.2.1 C.2.2.2.2.1 (C.2.2.2.2.2.1 _ hq) hd (K p e s m args below meth c H locs lsA al0 n0 al C ha hw hl)
theorem aw_ldcw {g : Glob} {M : Mth} {Post : Option Value → AH → Prop} {cl sl pc : Nat} {ls : List (Option Value)} {st : List Value} {h : AH} {idx : Nat} {v : Int32} (hd : decode (m_cc M) pc = .ok (.ldc_w idx, 3)) (hq : Cond.constant (m_own M) idx v ∈ lw_g) (K : AW g M Post cl sl (pc + 3) ls (.int v :: st) h) : AW g M Post cl sl pc ls (st) h := by
  intro p e s m args below meth c H locs lsA al0 n0 al C ha hw hl
  exact lv_ldcw C.1 C.2.1 C.2.2.2.2.1 (C.2.2.2.2.2.1 _ hq) hd (K p e s m args below meth c H locs lsA al0 n0 al C ha hw hl)
theorem aw_ldc2 {g : Glob} {M : Mth} {Post : Option Value → AH → Prop} {cl sl pc : Nat} {ls : List (Option Value)} {st : List Value} {h : AH} {idx : Nat} {v : Int64} (hd : decode (m_cc M) pc = .ok (.ldc2_w idx, 3)) (hq : Cond.constantLong (m_own M) idx v ∈ lw_g) (K : AW g M Post cl sl (pc + 3) ls (.long v :: st) h) : AW g M Post cl sl pc ls (st) h := by
  intro p e s m args below meth c H locs lsA al0 n0 al C ha hw hl
  exact lv_ldc2 C.1 C.2.1 C.2.2.2.2.1 (C.2.2.2.2.2.1 _ hq) hd (K p e s m args below meth c H locs lsA al0 n0 al C ha hw hl)
theorem aw_ldcf {g : Glob} {M : Mth} {Post : Option Value → AH → Prop} {cl sl pc : Nat} {ls : List (Option Value)} {st : List Value} {h : AH} {idx : Nat} {v : UInt32} (hd : decode (m_cc M) pc = .ok (.ldc idx, 2)) (hq : Cond.constantFloat (m_own M) idx v ∈ lw_g) (K : AW g M Post cl sl (pc + 2) ls (.float v :: st) h) : AW g M Post cl sl pc ls (st) h := by
  intro p e s m args below meth c H locs lsA al0 n0 al C ha hw hl
  exact lv_ldcf C.1 C.2.1 C.2.2.2.2.1 (C.2.2.2.2.2.1 _ hq) hd (K p e s m args below meth c H locs lsA al0 n0 al C ha hw hl)
theorem aw_iload_n {g : Glob} {M : Mth} {Post : Option Value → AH → Prop} {cl sl pc : Nat} {ls : List (Option Value)} {st : List Value} {h : AH} {k : Fin 4} {x : Int32} (hd : decode (m_cc M) pc = .ok (.iload_n k, 1)) (hk : lget ls (k : Nat) = some (.int x)) (K : AW g M Post cl sl (pc + 1) ls (.int x :: st) h) : AW g M Post cl sl pc ls (st) h := by
  intro p e s m args below meth c H locs lsA al0 n0 al C ha hw hl
  exact lv_iload_n C.1 C.2.1 hd rfl (hl.at hk) (K p e s m args below meth c H locs lsA al0 n0 al C ha hw hl)
theorem aw_iload {g : Glob} {M : Mth} {Post : Option Value → AH → Prop} {cl sl pc : Nat} {ls : List (Option Value)} {st : List Value} {h : AH} {k : Nat} {x : Int32} (hd : decode (m_cc M) pc = .ok (.iload k, 2)) (hk : lget ls k = some (.int x)) (K : AW g M Post cl sl (pc + 2) ls (.int x :: st) h) : AW g M Post cl sl pc ls (st) h := by
  intro p e s m args below meth c H locs lsA al0 n0 al C ha hw hl
  exact lv_iload C.1 C.2.1 hd (hl.at hk) (K p e s m args below meth c H locs lsA al0 n0 al C ha hw hl)
theorem aw_lload_n {g : Glob} {M : Mth} {Post : Option Value → AH → Prop} {cl sl pc : Nat} {ls : List (Option Value)} {st : List Value} {h : AH} {k : Fin 4} {x : Int64} (hd : decode (m_cc M) pc = .ok (.lload_n k, 1)) (hk : lget ls (k : Nat) = some (.long x)) (K : AW g M Post cl sl (pc + 1) ls (.long x :: st) h) : AW g M Post cl sl pc ls (st) h := by
  intro p e s m args below meth c H locs lsA al0 n0 al C ha hw hl
  exact lv_lload_n C.1 C.2.1 hd rfl (hl.at hk) (K p e s m args below meth c H locs lsA al0 n0 al C ha hw hl)
theorem aw_lload {g : Glob} {M : Mth} {Post : Option Value → AH → Prop} {cl sl pc : Nat} {ls : List (Option Value)} {st : List Value} {h : AH} {k : Nat} {x : Int64} (hd : decode (m_cc M) pc = .ok (.lload k, 2)) (hk : lget ls k = some (.long x)) (K : AW g M Post cl sl (pc + 2) ls (.long x :: st) h) : AW g M Post cl sl pc ls (st) h := by
  intro p e s m args below meth c H locs lsA al0 n0 al C ha hw hl
  exact lv_lload C.1 C.2.1 hd (hl.at hk) (K p e s m args below meth c H locs lsA al0 n0 al C ha hw hl)
theorem aw_fload_n {g : Glob} {M : Mth} {Post : Option Value → AH → Prop} {cl sl pc : Nat} {ls : List (Option Value)} {st : List Value} {h : AH} {k : Fin 4} {x : UInt32} (hd : decode (m_cc M) pc = .ok (.fload_n k, 1)) (hk : lget ls (k : Nat) = some (.float x)) (K : AW g M Post cl sl (pc + 1) ls (.float x :: st) h) : AW g M Post cl sl pc ls (st) h := by
  intro p e s m args below meth c H locs lsA al0 n0 al C ha hw hl
  exact lv_fload_n C.1 C.2.1 hd rfl (hl.at hk) (K p e s m args below meth c H locs lsA al0 n0 al C ha hw hl)
theorem aw_fload {g : Glob} {M : Mth} {Post : Option Value → AH → Prop} {cl sl pc : Nat} {ls : List (Option Value)} {st : List Value} {h : AH} {k : Nat} {x : UInt32} (hd : decode (m_cc M) pc = .ok (.fload k, 2)) (hk : lget ls k = some (.float x)) (K : AW g M Post cl sl (pc + 2) ls (.float x :: st) h) : AW g M Post cl sl pc ls (st) h := by
  intro p e s m args below meth c H locs lsA al0 n0 al C ha hw hl
  exact lv_fload C.1 C.2.1 hd (hl.at hk) (K p e s m args below meth c H locs lsA al0 n0 al C ha hw hl)
theorem aw_aload_n {g : Glob} {M : Mth} {Post : Option Value → AH → Prop} {cl sl pc : Nat} {ls : List (Option Value)} {st : List Value} {h : AH} {k : Fin 4} {x : Nat} (hd : decode (m_cc M) pc = .ok (.aload_n k, 1)) (hk : lget ls (k : Nat) = some (.ref x)) (K : AW g M Post cl sl (pc + 1) ls (.ref x :: st) h) : AW g M Post cl sl pc ls (st) h := by
  intro p e s m args below meth c H locs lsA al0 n0 al C ha hw hl
  exact lv_aload_n C.1 C.2.1 hd rfl (hl.at hk) (K p e s m args below meth c H locs lsA al0 n0 al C ha hw hl)
theorem aw_aload {g : Glob} {M : Mth} {Post : Option Value → AH → Prop} {cl sl pc : Nat} {ls : List (Option Value)} {st : List Value} {h : AH} {k : Nat} {x : Nat} (hd : decode (m_cc M) pc = .ok (.aload k, 2)) (hk : lget ls k = some (.ref x)) (K : AW g M Post cl sl (pc + 2) ls (.ref x :: st) h) : AW g M Post cl sl pc ls (st) h := by
  intro p e s m args below meth c H locs lsA al0 n0 al C ha hw hl
  exact lv_aload C.1 C.2.1 hd (hl.at hk) (K p e s m args below meth c H locs lsA al0 n0 al C ha hw hl)
theorem aw_istore_n {g : Glob} {M : Mth} {Post : Option Value → AH → Prop} {cl sl pc : Nat} {ls : List (Option Value)} {st : List Value} {h : AH} {k : Fin 4} {i : Nat} {x : Int32} (hd : decode (m_cc M) pc = .ok (.istore_n k, 1)) (hi : (k : Nat) = i) (hn : i < m_nL M) (hc : c2at ls i = false) (K : AW g M Post cl sl (pc + 1) (ls.set i (some (.int x))) st h) : AW g M Post cl sl pc ls (.int x :: st) h := by
  intro p e s m args below meth c H locs lsA al0 n0 al C ha hw hl
  exact lv_istore_n C.1 C.2.1 hd hi hl.has hn rfl (fun ls' hl' => K p e s m args below meth c H locs ls' al0 n0 al C ha hw (LH.set1 (v := .int x) hc hl'))
theorem aw_istore {g : Glob} {M : Mth} {Post : Option Value → AH → Prop} {cl sl pc : Nat} {ls : List (Option Value)} {st : List Value} {h : AH} {i : Nat} {x : Int32} (hd : decode (m_cc M) pc = .ok (.istore i, 2)) (hn : i < m_nL M) (hc : c2at ls i = false) (K : AW g M Post cl sl (pc + 2) (ls.set i (some (.int x))) st h) : AW g M Post cl sl pc ls (.int x :: st) h := by
  intro p e s m args below meth c H locs lsA al0 n0 al C ha hw hl
  exact lv_istore C.1 C.2.1 hd hl.has hn rfl (fun ls' hl' => K p e s m args below meth c H locs ls' al0 n0 al C ha hw (LH.set1 (v := .int x) hc hl'))
theorem aw_fstore_n {g : Glob} {M : Mth} {Post : Option Value → AH → Prop} {cl sl pc : Nat} {ls : List (Option Value)} {st : List Value} {h : AH} {k : Fin 4} {i : Nat} {x : UInt32} (hd : decode (m_cc M) pc = .ok (.fstore_n k, 1)) (hi : (k : Nat) = i) (hn : i < m_nL M) (hc : c2at ls i = false) (K : AW g M Post cl sl (pc + 1) (ls.set i (some (.float x))) st h) : AW g M Post cl sl pc ls (.float x :: st) h := by
  intro p e s m args below meth c H locs lsA al0 n0 al C ha hw hl
  exact lv_fstore_n C.1 C.2.1 hd hi hl.has hn rfl (fun ls' hl' => K p e s m args below meth c H locs ls' al0 n0 al C ha hw (LH.set1 (v := .float x) hc hl'))
theorem aw_fstore {g : Glob} {M : Mth} {Post : Option Value → AH → Prop} {cl sl pc : Nat} {ls : List (Option Value)} {st : List Value} {h : AH} {i : Nat} {x : UInt32} (hd : decode (m_cc M) pc = .ok (.fstore i, 2)) (hn : i < m_nL M) (hc : c2at ls i = false) (K : AW g M Post cl sl (pc + 2) (ls.set i (some (.float x))) st h) : AW g M Post cl sl pc ls (.float x :: st) h := by
  intro p e s m args below meth c H locs lsA al0 n0 al C ha hw hl
  exact lv_fstore C.1 C.2.1 hd hl.has hn rfl (fun ls' hl' => K p e s m args below meth c H locs ls' al0 n0 al C ha hw (LH.set1 (v := .float x) hc hl'))
theorem aw_lstore_n {g : Glob} {M : Mth} {Post : Option Value → AH → Prop} {cl sl pc : Nat} {ls : List (Option Value)} {st : List Value} {h : AH} {k : Fin 4} {i : Nat} {x : Int64} (hd : decode (m_cc M) pc = .ok (.lstore_n k, 1)) (hi : (k : Nat) = i) (hn : i + 1 < m_nL M) (hc : c2at ls i = false) (K : AW g M Post cl sl (pc + 1) ((ls.set i (some (.long x))).set (i + 1) none) st h) : AW g M Post cl sl pc ls (.long x :: st) h := by
  intro p e s m args below meth c H locs lsA al0 n0 al C ha hw hl
  exact lv_lstore_n C.1 C.2.1 hd hi hl.has hn rfl (fun ls' hl' => K p e s m args below meth c H locs ls' al0 n0 al C ha hw (LH.set2 (v := .long x) hc hl'))
theorem aw_lstore {g : Glob} {M : Mth} {Post : Option Value → AH → Prop} {cl sl pc : Nat} {ls : List (Option Value)} {st : List Value} {h : AH} {i : Nat} {x : Int64} (hd : decode (m_cc M) pc = .ok (.lstore i, 2)) (hn : i + 1 < m_nL M) (hc : c2at ls i = false) (K : AW g M Post cl sl (pc + 2) ((ls.set i (some (.long x))).set (i + 1) none) st h) : AW g M Post cl sl pc ls (.long x :: st) h := by
  intro p e s m args below meth c H locs lsA al0 n0 al C ha hw hl
  exact lv_lstore C.1 C.2.1 hd hl.has hn rfl (fun ls' hl' => K p e s m args below meth c H locs ls' al0 n0 al C ha hw (LH.set2 (v := .long x) hc hl'))
theorem aw_astore_n {g : Glob} {M : Mth} {Post : Option Value → AH → Prop} {cl sl pc : Nat} {ls : List (Option Value)} {st : List Value} {h : AH} {k : Fin 4} {i : Nat} {x : Nat} (hd : decode (m_cc M) pc = .ok (.astore_n k, 1)) (hi : (k : Nat) = i) (hn : i < m_nL M) (hc : c2at ls i = false) (K : AW g M Post cl sl (pc + 1) (ls.set i (some (.ref x))) st h) : AW g M Post cl sl pc ls (.ref x :: st) h := by
  intro p e s m args below meth c H locs lsA al0 n0 al C ha hw hl
  exact lv_astore_n C.1 C.2.1 hd hi hl.has hn rfl (fun ls' hl' => K p e s m args below meth c H locs ls' al0 n0 al C ha hw (LH.set1 (v := .ref x) hc hl'))
theorem aw_astore {g : Glob} {M : Mth} {Post : Option Value → AH → Prop} {cl sl pc : Nat} {ls : List (Option Value)} {st : List Value} {h : AH} {i : Nat} {x : Nat} (hd : decode (m_cc M) pc = .ok (.astore i, 2)) (hn : i < m_nL M) (hc : c2at ls i = false) (K : AW g M Post cl sl (pc + 2) (ls.set i (some (.ref x))) st h) : AW g M Post cl sl pc ls (.ref x :: st) h := by
  intro p e s m args below meth c H locs lsA al0 n0 al C ha hw hl
  exact lv_astore C.1 C.2.1 hd hl.has hn rfl (fun ls' hl' => K p e s m args below meth c H locs ls' al0 n0 al C ha hw (LH.set1 (v := .ref x) hc hl'))
theorem aw_iinc {g : Glob} {M : Mth} {Post : Option Value → AH → Prop} {cl sl pc : Nat} {ls : List (Option Value)} {st : List Value} {h : AH} {i : Nat} {n : Int} {x v : Int32} (hd : decode (m_cc M) pc = .ok (.iinc i n, 3)) (hk : lget ls i = some (.int x)) (hv : Int32.ofInt n = v) (hn : i < m_nL M) (hc : c2at ls i = false) (K : AW g M Post cl sl (pc + 3) (ls.set i (some (.int (x + v)))) st h) : AW g M Post cl sl pc ls st h := by
  intro p e s m args below meth c H locs lsA al0 n0 al C ha hw hl
  subst hv
  obtain ⟨k, hk'⟩ := List.getElem?_of_mem (lvl_mem (g := g) (al := al) (lget_some hk))
  exact lv_iinc (k := k) C.1 C.2.1 hd hl.has hk' rfl hn rfl (fun ls' hl' => K p e s m args below meth c H locs ls' al0 n0 al C ha hw (LH.set1 (v := .int (x + Int32.ofInt n)) hc hl'))
theorem aw_iadd {g : Glob} {M : Mth} {Post : Option Value → AH → Prop} {cl sl pc : Nat} {ls : List (Option Value)} {st : List Value} {h : AH} {x y : Int32} (hd : decode (m_cc M) pc = .ok (.iadd, 1)) (K : AW g M Post cl sl (pc + 1) ls (.int (x + y) :: st) h) : AW g M Post cl sl pc ls (.int y :: .int x :: st) h := by
  intro p e s m args below meth c H locs lsA al0 n0 al C ha hw hl
  exact lv_iadd C.1 C.2.1 hd (K p e s m args below meth c H locs lsA al0 n0 al C ha hw hl)
theorem aw_isub {g : Glob} {M : Mth} {Post : Option Value → AH → Prop} {cl sl pc : Nat} {ls : List (Option Value)} {st : List Value} {h : AH} {x y : Int32} (hd : decode (m_cc M) pc = .ok (.isub, 1)) (K : AW g M Post cl sl (pc + 1) ls (.int (x - y) :: st) h) : AW g M Post cl sl pc ls (.int y :: .int x :: st) h := by
  intro p e s m args below meth c H locs lsA al0 n0 al C ha hw hl
  exact lv_isub C.1 C.2.1 hd (K p e s m args below meth c H locs lsA al0 n0 al C ha hw hl)
theorem aw_imul {g : Glob} {M : Mth} {Post : Option Value → AH → Prop} {cl sl pc : Nat} {ls : List (Option Value)} {st : List Value} {h : AH} {x y : Int32} (hd : decode (m_cc M) pc = .ok (.imul, 1)) (K : AW g M Post cl sl (pc + 1) ls (.int (x * y) :: st) h) : AW g M Post cl sl pc ls (.int y :: .int x :: st) h := by
  intro p e s m args below meth c H locs lsA al0 n0 al C ha hw hl
  exact lv_imul C.1 C.2.1 hd (K p e s m args below meth c H locs lsA al0 n0 al C ha hw hl)
theorem aw_iand {g : Glob} {M : Mth} {Post : Option Value → AH → Prop} {cl sl pc : Nat} {ls : List (Option Value)} {st : List Value} {h : AH} {x y : Int32} (hd : decode (m_cc M) pc = .ok (.iand, 1)) (K : AW g M Post cl sl (pc + 1) ls (.int (x &&& y) :: st) h) : AW g M Post cl sl pc ls (.int y :: .int x :: st) h := by
  intro p e s m args below meth c H locs lsA al0 n0 al C ha hw hl
  exact lv_iand C.1 C.2.1 hd (K p e s m args below meth c H locs lsA al0 n0 al C ha hw hl)
theorem aw_ior {g : Glob} {M : Mth} {Post : Option Value → AH → Prop} {cl sl pc : Nat} {ls : List (Option Value)} {st : List Value} {h : AH} {x y : Int32} (hd : decode (m_cc M) pc = .ok (.ior, 1)) (K : AW g M Post cl sl (pc + 1) ls (.int (x ||| y) :: st) h) : AW g M Post cl sl pc ls (.int y :: .int x :: st) h := by
  intro p e s m args below meth c H locs lsA al0 n0 al C ha hw hl
  exact lv_ior C.1 C.2.1 hd (K p e s m args below meth c H locs lsA al0 n0 al C ha hw hl)
theorem aw_ixor {g : Glob} {M : Mth} {Post : Option Value → AH → Prop} {cl sl pc : Nat} {ls : List (Option Value)} {st : List Value} {h : AH} {x y : Int32} (hd : decode (m_cc M) pc = .ok (.ixor, 1)) (K : AW g M Post cl sl (pc + 1) ls (.int (x ^^^ y) :: st) h) : AW g M Post cl sl pc ls (.int y :: .int x :: st) h := by
  intro p e s m args below meth c H locs lsA al0 n0 al C ha hw hl
  exact lv_ixor C.1 C.2.1 hd (K p e s m args below meth c H locs lsA al0 n0 al C ha hw hl)
theorem aw_ishl {g : Glob} {M : Mth} {Post : Option Value → AH → Prop} {cl sl pc : Nat} {ls : List (Option Value)} {st : List Value} {h : AH} {x y : Int32} (hd : decode (m_cc M) pc = .ok (.ishl, 1)) (K : AW g M Post cl sl (pc + 1) ls (.int (x <<< (y &&& 31)) :: st) h) : AW g M Post cl sl pc ls (.int y :: .int x :: st) h := by
  intro p e s m args below meth c H locs lsA al0 n0 al C ha hw hl
  exact lv_ishl C.1 C.2.1 hd (K p e s m args below meth c H locs lsA al0 n0 al C ha hw hl)
theorem aw_ishr {g : Glob} {M : Mth} {Post : Option Value → AH → Prop} {cl sl pc : Nat} {ls : List (Option Value)} {st : List Value} {h : AH} {x y : Int32} (hd : decode (m_cc M) pc = .ok (.ishr, 1)) (K : AW g M Post cl sl (pc + 1) ls (.int (x >>> (y &&& 31)) :: st) h) : AW g M Post cl sl pc ls (.int y :: .int x :: st) h := by
  intro p e s m args below meth c H locs lsA al0 n0 al C ha hw hl
  exact lv_ishr C.1 C.2.1 hd (K p e s m args below meth c H locs lsA al0 n0 al C ha hw hl)
theorem aw_iushr {g : Glob} {M : Mth} {Post : Option Value → AH → Prop} {cl sl pc : Nat} {ls : List (Option Value)} {st : List Value} {h : AH} {x y : Int32} (hd : decode (m_cc M) pc = .ok (.iushr, 1)) (K : AW g M Post cl sl (pc + 1) ls (.int ((x.toUInt32 >>> (y.toUInt32 &&& Int32.toUInt32 31)).toInt32) :: st) h) : AW g M Post cl sl pc ls (.int y :: .int x :: st) h := by
  intro p e s m args below meth c H locs lsA al0 n0 al C ha hw hl
  exact lv_iushr C.1 C.2.1 hd rfl (K p e s m args below meth c H locs lsA al0 n0 al C ha hw hl)
theorem aw_ineg {g : Glob} {M : Mth} {Post : Option Value → AH → Prop} {cl sl pc : Nat} {ls : List (Option Value)} {st : List Value} {h : AH} {x : Int32} (hd : decode (m_cc M) pc = .ok (.ineg, 1)) (K : AW g M Post cl sl (pc + 1) ls (.int (-x) :: st) h) : AW g M Post cl sl pc ls (.int x :: st) h := by
  intro p e s m args below meth c H locs lsA al0 n0 al C ha hw hl
  exact lv_ineg C.1 C.2.1 hd (K p e s m args below meth c H locs lsA al0 n0 al C ha hw hl)
theorem aw_i2l {g : Glob} {M : Mth} {Post : Option Value → AH → Prop} {cl sl pc : Nat} {ls : List (Option Value)} {st : List Value} {h : AH} {x : Int32} (hd : decode (m_cc M) pc = .ok (.i2l, 1)) (K : AW g M Post cl sl (pc + 1) ls (.long x.toInt64 :: st) h) : AW g M Post cl sl pc ls (.int x :: st) h := by
  intro p e s m args below meth c H locs lsA al0 n0 al C ha hw hl
  exact lv_i2l C.1 C.2.1 hd rfl (K p e s m args below meth c H locs lsA al0 n0 al C ha hw hl)
theorem aw_i2c {g : Glob} {M : Mth} {Post : Option Value → AH → Prop} {cl sl pc : Nat} {ls : List (Option Value)} {st : List Value} {h : AH} {x : Int32} (hd : decode (m_cc M) pc = .ok (.i2c, 1)) (K : AW g M Post cl sl (pc + 1) ls (.int (x.toUInt32 % 65536).toInt32 :: st) h) : AW g M Post cl sl pc ls (.int x :: st) h := by
  intro p e s m args below meth c H locs lsA al0 n0 al C ha hw hl
  exact lv_i2c C.1 C.2.1 hd rfl (K p e s m args below meth c H locs lsA al0 n0 al C ha hw hl)
theorem aw_i2f {g : Glob} {M : Mth} {Post : Option Value → AH → Prop} {cl sl pc : Nat} {ls : List (Option Value)} {st : List Value} {h : AH} {x : Int32} (hd : decode (m_cc M) pc = .ok (.i2f, 1)) (K : AW g M Post cl sl (pc + 1) ls (.float (FP.i2f x) :: st) h) : AW g M Post cl sl pc ls (.int x :: st) h := by
  intro p e s m args below meth c H locs lsA al0 n0 al C ha hw hl
  exact lv_i2f C.1 C.2.1 hd (K p e s m args below meth c H locs lsA al0 n0 al C ha hw hl)
theorem aw_f2i {g : Glob} {M : Mth} {Post : Option Value → AH → Prop} {cl sl pc : Nat} {ls : List (Option Value)} {st : List Value} {h : AH} {x : UInt32} (hd : decode (m_cc M) pc = .ok (.f2i, 1)) (K : AW g M Post cl sl (pc + 1) ls (.int (FP.f2i x) :: st) h) : AW g M Post cl sl pc ls (.float x :: st) h := by
  intro p e s m args below meth c H locs lsA al0 n0 al C ha hw hl
  exact lv_f2i C.1 C.2.1 hd (K p e s m args below meth c H locs lsA al0 n0 al C ha hw hl)
theorem aw_ladd {g : Glob} {M : Mth} {Post : Option Value → AH → Prop} {cl sl pc : Nat} {ls : List (Option Value)} {st : List Value} {h : AH} {x y : Int64} (hd : decode (m_cc M) pc = .ok (.ladd, 1)) (K : AW g M Post cl sl (pc + 1) ls (.long (x + y) :: st) h) : AW g M Post cl sl pc ls (.long y :: .long x :: st) h := by
  intro p e s m args below meth c H locs lsA al0 n0 al C ha hw hl
  exact lv_ladd C.1 C.2.1 hd (K p e s m args below meth c H locs lsA al0 n0 al C ha hw hl)
theorem aw_lsub {g : Glob} {M : Mth} {Post : Option Value → AH → Prop} {cl sl pc : Nat} {ls : List (Option Value)} {st : List Value} {h : AH} {x y : Int64} (hd : decode (m_cc M) pc = .ok (.lsub, 1)) (K : AW g M Post cl sl (pc + 1) ls (.long (x - y) :: st) h) : AW g M Post cl sl pc ls (.long y :: .long x :: st) h := by
  intro p e s m args below meth c H locs lsA al0 n0 al C ha hw hl
  exact lv_lsub C.1 C.2.1 hd (K p e s m args below meth c H locs lsA al0 n0 al C ha hw hl)
theorem aw_lmul {g : Glob} {M : Mth} {Post : Option Value → AH → Prop} {cl sl pc : Nat} {ls : List (Option Value)} {st : List Value} {h : AH} {x y : Int64} (hd : decode (m_cc M) pc = .ok (.lmul, 1)) (K : AW g M Post cl sl (pc + 1) ls (.long (x * y) :: st) h) : AW g M Post cl sl pc ls (.long y :: .long x :: st) h := by
  intro p e s m args below meth c H locs lsA al0 n0 al C ha hw hl
  exact lv_lmul C.1 C.2.1 hd (K p e s m args below meth c H locs lsA al0 n0 al C ha hw hl)
theorem aw_lcmp {g : Glob} {M : Mth} {Post : Option Value → AH → Prop} {cl sl pc : Nat} {ls : List (Option Value)} {st : List Value} {h : AH} {x y : Int64} (hd : decode (m_cc M) pc = .ok (.lcmp, 1)) (K : AW g M Post cl sl (pc + 1) ls (.int (lg_cmp x y) :: st) h) : AW g M Post cl sl pc ls (.long y :: .long x :: st) h := by
  intro p e s m args below meth c H locs lsA al0 n0 al C ha hw hl
  exact W.lcmp C.1 C.2.1 hd (K p e s m args below meth c H locs lsA al0 n0 al C ha hw hl)
theorem aw_fadd {g : Glob} {M : Mth} {Post : Option Value → AH → Prop} {cl sl pc : Nat} {ls : List (Option Value)} {st : List Value} {h : AH} {x y : UInt32} (hd : decode (m_cc M) pc = .ok (.fadd, 1)) (hn : vf_n32 (FP.fadd x y)) (K : AW g M Post cl sl (pc + 1) ls (.float (FP.fadd x y) :: st) h) : AW g M Post cl sl pc ls (.float y :: .float x :: st) h := by
  intro p e s m args below meth c H locs lsA al0 n0 al C ha hw hl
  exact lv_fadd C.1 C.2.1 hd hn (K p e s m args below meth c H locs lsA al0 n0 al C ha hw hl)
theorem aw_fmul {g : Glob} {M : Mth} {Post : Option Value → AH → Prop} {cl sl pc : Nat} {ls : List (Option Value)} {st : List Value} {h : AH} {x y : UInt32} (hd : decode (m_cc M) pc = .ok (.fmul, 1)) (hn : vf_n32 (FP.fmul x y)) (K : AW g M Post cl sl (pc + 1) ls (.float (FP.fmul x y) :: st) h) : AW g M Post cl sl pc ls (.float y :: .float x :: st) h := by
  intro p e s m args below meth c H locs lsA al0 n0 al C ha hw hl
  exact lv_fmul C.1 C.2.1 hd hn (K p e s m args below meth c H locs lsA al0 n0 al C ha hw hl)
theorem aw_fdiv {g : Glob} {M : Mth} {Post : Option Value → AH → Prop} {cl sl pc : Nat} {ls : List (Option Value)} {st : List Value} {h : AH} {x y : UInt32} (hd : decode (m_cc M) pc = .ok (.fdiv, 1)) (hn : vf_n32 (FP.fdiv x y)) (K : AW g M Post cl sl (pc + 1) ls (.float (FP.fdiv x y) :: st) h) : AW g M Post cl sl pc ls (.float y :: .float x :: st) h := by
  intro p e s m args below meth c H locs lsA al0 n0 al C ha hw hl
  exact lv_fdiv C.1 C.2.1 hd hn (K p e s m args below meth c H locs lsA al0 n0 al C ha hw hl)
theorem aw_fcmp {g : Glob} {M : Mth} {Post : Option Value → AH → Prop} {cl sl pc : Nat} {ls : List (Option Value)} {st : List Value} {h : AH} {x y : UInt32} {op : CmpOp} (hd : decode (m_cc M) pc = .ok (.fcmp op, 1)) (K : AW g M Post cl sl (pc + 1) ls (.int (Op.cmpValue (FP.fcmp x y) op) :: st) h) : AW g M Post cl sl pc ls (.float y :: .float x :: st) h := by
  intro p e s m args below meth c H locs lsA al0 n0 al C ha hw hl
  exact lv_fcmp C.1 C.2.1 hd (K p e s m args below meth c H locs lsA al0 n0 al C ha hw hl)
theorem aw_dup {g : Glob} {M : Mth} {Post : Option Value → AH → Prop} {cl sl pc : Nat} {ls : List (Option Value)} {st : List Value} {h : AH} {v : Value} (hd : decode (m_cc M) pc = .ok (.dup, 1)) (hc : v.category = 1) (K : AW g M Post cl sl (pc + 1) ls (v :: v :: st) h) : AW g M Post cl sl pc ls (v :: st) h := by
  intro p e s m args below meth c H locs lsA al0 n0 al C ha hw hl
  exact lv_dup C.1 C.2.1 hd ((trV_cat g al v).trans hc) (K p e s m args below meth c H locs lsA al0 n0 al C ha hw hl)
theorem aw_pop {g : Glob} {M : Mth} {Post : Option Value → AH → Prop} {cl sl pc : Nat} {ls : List (Option Value)} {st : List Value} {h : AH} {v : Value} (hd : decode (m_cc M) pc = .ok (.pop, 1)) (hc : v.category = 1) (K : AW g M Post cl sl (pc + 1) ls (st) h) : AW g M Post cl sl pc ls (v :: st) h := by
  intro p e s m args below meth c H locs lsA al0 n0 al C ha hw hl
  exact lv_pop C.1 C.2.1 hd ((trV_cat g al v).trans hc) (K p e s m args below meth c H locs lsA al0 n0 al C ha hw hl)
theorem aw_dup2 {g : Glob} {M : Mth} {Post : Option Value → AH → Prop} {cl sl pc : Nat} {ls : List (Option Value)} {st : List Value} {h : AH} {v u : Value} (hd : decode (m_cc M) pc = .ok (.dup2, 1)) (hc : v.category = 1) (hc2 : u.category = 1) (K : AW g M Post cl sl (pc + 1) ls (v :: u :: v :: u :: st) h) : AW g M Post cl sl pc ls (v :: u :: st) h := by
  intro p e s m args below meth c H locs lsA al0 n0 al C ha hw hl
  exact lv_dup2_11 C.1 C.2.1 hd ((trV_cat g al v).trans hc) ((trV_cat g al u).trans hc2) (K p e s m args below meth c H locs lsA al0 n0 al C ha hw hl)
theorem aw_icmp_eq {g : Glob} {M : Mth} {Post : Option Value → AH → Prop} {cl sl pc : Nat} {ls : List (Option Value)} {st : List Value} {h : AH} {x y : Int32} {off : Int} {t : Nat} (hd : decode (m_cc M) pc = .ok (.if_icmp .eq off, 3)) (ht : (pc : Int) + off = (t : Int)) (K1 : x = y → AW g M Post cl sl t ls st h) (K2 : ¬ x = y → AW g M Post cl sl (pc + 3) ls st h) : AW g M Post cl sl pc ls (.int y :: .int x :: st) h := by
  intro p e s m args below meth c H locs lsA al0 n0 al C ha hw hl
  exact lv_icmp_eq C.1 C.2.1 hd ht (fun z => K1 z p e s m args below meth c H locs lsA al0 n0 al C ha hw hl) (fun z => K2 z p e s m args below meth c H locs lsA al0 n0 al C ha hw hl)
theorem aw_if_eq {g : Glob} {M : Mth} {Post : Option Value → AH → Prop} {cl sl pc : Nat} {ls : List (Option Value)} {st : List Value} {h : AH} {x : Int32} {off : Int} {t : Nat} (hd : decode (m_cc M) pc = .ok (.ifCond .eq off, 3)) (ht : (pc : Int) + off = (t : Int)) (K1 : x = 0 → AW g M Post cl sl t ls st h) (K2 : ¬ x = 0 → AW g M Post cl sl (pc + 3) ls st h) : AW g M Post cl sl pc ls (.int x :: st) h := by
  intro p e s m args below meth c H locs lsA al0 n0 al C ha hw hl
  exact lv_if_eq C.1 C.2.1 hd ht (fun z => K1 z p e s m args below meth c H locs lsA al0 n0 al C ha hw hl) (fun z => K2 z p e s m args below meth c H locs lsA al0 n0 al C ha hw hl)
theorem aw_icmp_ne {g : Glob} {M : Mth} {Post : Option Value → AH → Prop} {cl sl pc : Nat} {ls : List (Option Value)} {st : List Value} {h : AH} {x y : Int32} {off : Int} {t : Nat} (hd : decode (m_cc M) pc = .ok (.if_icmp .ne off, 3)) (ht : (pc : Int) + off = (t : Int)) (K1 : ¬ x = y → AW g M Post cl sl t ls st h) (K2 : x = y → AW g M Post cl sl (pc + 3) ls st h) : AW g M Post cl sl pc ls (.int y :: .int x :: st) h := by
  intro p e s m args below meth c H locs lsA al0 n0 al C ha hw hl
  exact lv_icmp_ne C.1 C.2.1 hd ht (fun z => K1 z p e s m args below meth c H locs lsA al0 n0 al C ha hw hl) (fun z => K2 z p e s m args below meth c H locs lsA al0 n0 al C ha hw hl)
theorem aw_if_ne {g : Glob} {M : Mth} {Post : Option Value → AH → Prop} {cl sl pc : Nat} {ls : List (Option Value)} {st : List Value} {h : AH} {x : Int32} {off : Int} {t : Nat} (hd : decode (m_cc M) pc = .ok (.ifCond .ne off, 3)) (ht : (pc : Int) + off = (t : Int)) (K1 : ¬ x = 0 → AW g M Post cl sl t ls st h) (K2 : x = 0 → AW g M Post cl sl (pc + 3) ls st h) : AW g M Post cl sl pc ls (.int x :: st) h := by
  intro p e s m args below meth c H locs lsA al0 n0 al C ha hw hl
  exact lv_if_ne C.1 C.2.1 hd ht (fun z => K1 z p e s m args below meth c H locs lsA al0 n0 al C ha hw hl) (fun z => K2 z p e s m args below meth c H locs lsA al0 n0 al C ha hw hl)
theorem aw_icmp_lt {g : Glob} {M : Mth} {Post : Option Value → AH → Prop} {cl sl pc : Nat} {ls : List (Option Value)} {st : List Value} {h : AH} {x y : Int32} {off : Int} {t : Nat} (hd : decode (m_cc M) pc = .ok (.if_icmp .lt off, 3)) (ht : (pc : Int) + off = (t : Int)) (K1 : x < y → AW g M Post cl sl t ls st h) (K2 : ¬ x < y → AW g M Post cl sl (pc + 3) ls st h) : AW g M Post cl sl pc ls (.int y :: .int x :: st) h := by
  intro p e s m args below meth c H locs lsA al0 n0 al C ha hw hl
  exact lv_icmp_lt C.1 C.2.1 hd ht (fun z => K1 z p e s m args below meth c H locs lsA al0 n0 al C ha hw hl) (fun z => K2 z p e s m args below meth c H locs lsA al0 n0 al C ha hw hl)
theorem aw_if_lt {g : Glob} {M : Mth} {Post : Option Value → AH → Prop} {cl sl pc : Nat} {ls : List (Option Value)} {st : List Value} {h : AH} {x : Int32} {off : Int} {t : Nat} (hd : decode (m_cc M) pc = .ok (.ifCond .lt off, 3)) (ht : (pc : Int) + off = (t : Int)) (K1 : x < 0 → AW g M Post cl sl t ls st h) (K2 : ¬ x < 0 → AW g M Post cl sl (pc + 3) ls st h) : AW g M Post cl sl pc ls (.int x :: st) h := by
  intro p e s m args below meth c H locs lsA al0 n0 al C ha hw hl
  exact lv_if_lt C.1 C.2.1 hd ht (fun z => K1 z p e s m args below meth c H locs lsA al0 n0 al C ha hw hl) (fun z => K2 z p e s m args below meth c H locs lsA al0 n0 al C ha hw hl)
theorem aw_icmp_ge {g : Glob} {M : Mth} {Post : Option Value → AH → Prop} {cl sl pc : Nat} {ls : List (Option Value)} {st : List Value} {h : AH} {x y : Int32} {off : Int} {t : Nat} (hd : decode (m_cc M) pc = .ok (.if_icmp .ge off, 3)) (ht : (pc : Int) + off = (t : Int)) (K1 : y ≤ x → AW g M Post cl sl t ls st h) (K2 : ¬ y ≤ x → AW g M Post cl sl (pc + 3) ls st h) : AW g M Post cl sl pc ls (.int y :: .int x :: st) h := by
  intro p e s m args below meth c H locs lsA al0 n0 al C ha hw hl
  exact lv_icmp_ge C.1 C.2.1 hd ht (fun z => K1 z p e s m args below meth c H locs lsA al0 n0 al C ha hw hl) (fun z => K2 z p e s m args below meth c H locs lsA al0 n0 al C ha hw hl)
theorem aw_if_ge {g : Glob} {M : Mth} {Post : Option Value → AH → Prop} {cl sl pc : Nat} {ls : List (Option Value)} {st : List Value} {h : AH} {x : Int32} {off : Int} {t : Nat} (hd : decode (m_cc M) pc = .ok (.ifCond .ge off, 3)) (ht : (pc : Int) + off = (t : Int)) (K1 : 0 ≤ x → AW g M Post cl sl t ls st h) (K2 : ¬ 0 ≤ x → AW g M Post cl sl (pc + 3) ls st h) : AW g M Post cl sl pc ls (.int x :: st) h := by
  intro p e s m args below meth c H locs lsA al0 n0 al C ha hw hl
  exact lv_if_ge C.1 C.2.1 hd ht (fun z => K1 z p e s m args below meth c H locs lsA al0 n0 al C ha hw hl) (fun z => K2 z p e s m args below meth c H locs lsA al0 n0 al C ha hw hl)
theorem aw_icmp_gt {g : Glob} {M : Mth} {Post : Option Value → AH → Prop} {cl sl pc : Nat} {ls : List (Option Value)} {st : List Value} {h : AH} {x y : Int32} {off : Int} {t : Nat} (hd : decode (m_cc M) pc = .ok (.if_icmp .gt off, 3)) (ht : (pc : Int) + off = (t : Int)) (K1 : y < x → AW g M Post cl sl t ls st h) (K2 : ¬ y < x → AW g M Post cl sl (pc + 3) ls st h) : AW g M Post cl sl pc ls (.int y :: .int x :: st) h := by
  intro p e s m args below meth c H locs lsA al0 n0 al C ha hw hl
  exact lv_icmp_gt C.1 C.2.1 hd ht (fun z => K1 z p e s m args below meth c H locs lsA al0 n0 al C ha hw hl) (fun z => K2 z p e s m args below meth c H locs lsA al0 n0 al C ha hw hl)
theorem aw_if_gt {g : Glob} {M : Mth} {Post : Option Value → AH → Prop} {cl sl pc : Nat} {ls : List (Option Value)} {st : List Value} {h : AH} {x : Int32} {off : Int} {t : Nat} (hd : decode (m_cc M) pc = .ok (.ifCond .gt off, 3)) (ht : (pc : Int) + off = (t : Int)) (K1 : 0 < x → AW g M Post cl sl t ls st h) (K2 : ¬ 0 < x → AW g M Post cl sl (pc + 3) ls st h) : AW g M Post cl sl pc ls (.int x :: st) h := by
  intro p e s m args below meth c H locs lsA al0 n0 al C ha hw hl
  exact lv_if_gt C.1 C.2.1 hd ht (fun z => K1 z p e s m args below meth c H locs lsA al0 n0 al C ha hw hl) (fun z => K2 z p e s m args below meth c H locs lsA al0 n0 al C ha hw hl)
theorem aw_icmp_le {g : Glob} {M : Mth} {Post : Option Value → AH → Prop} {cl sl pc : Nat} {ls : List (Option Value)} {st : List Value} {h : AH} {x y : Int32} {off : Int} {t : Nat} (hd : decode (m_cc M) pc = .ok (.if_icmp .le off, 3)) (ht : (pc : Int) + off = (t : Int)) (K1 : x ≤ y → AW g M Post cl sl t ls st h) (K2 : ¬ x ≤ y → AW g M Post cl sl (pc + 3) ls st h) : AW g M Post cl sl pc ls (.int y :: .int x :: st) h := by
  intro p e s m args below meth c H locs lsA al0 n0 al C ha hw hl
  exact lv_icmp_le C.1 C.2.1 hd ht (fun z => K1 z p e s m args below meth c H locs lsA al0 n0 al C ha hw hl) (fun z => K2 z p e s m args below meth c H locs lsA al0 n0 al C ha hw hl)
theorem aw_if_le {g : Glob} {M : Mth} {Post : Option Value → AH → Prop} {cl sl pc : Nat} {ls : List (Option Value)} {st : List Value} {h : AH} {x : Int32} {off : Int} {t : Nat} (hd : decode (m_cc M) pc = .ok (.ifCond .le off, 3)) (ht : (pc : Int) + off = (t : Int)) (K1 : x ≤ 0 → AW g M Post cl sl t ls st h) (K2 : ¬ x ≤ 0 → AW g M Post cl sl (pc + 3) ls st h) : AW g M Post cl sl pc ls (.int x :: st) h := by
  intro p e s m args below meth c H locs lsA al0 n0 al C ha hw hl
  exact lv_if_le C.1 C.2.1 hd ht (fun z => K1 z p e s m args below meth c H locs lsA al0 n0 al C ha hw hl) (fun z => K2 z p e s m args below meth c H locs lsA al0 n0 al C ha hw hl)
theorem aw_goto {g : Glob} {M : Mth} {Post : Option Value → AH → Prop} {cl sl pc : Nat} {ls : List (Option Value)} {st : List Value} {h : AH} {off : Int} {t : Nat} (hd : decode (m_cc M) pc = .ok (.goto off, 3)) (ht : (pc : Int) + off = (t : Int)) (K : AW g M Post cl sl t ls st h) : AW g M Post cl sl pc ls st h := by
  intro p e s m args below meth c H locs lsA al0 n0 al C ha hw hl
  exact lv_goto C.1 C.2.1 hd ht (K p e s m args below meth c H locs lsA al0 n0 al C ha hw hl)
end
section
/-- field types by class and place -/
def ctT (a : Nat) : u_T := match a with
  | 0 => TX0 | 1 => TX1 | 2 => TX2 | 3 => TX3 | 4 => TX4 | 5 => TX5 | _ => TX6
def cty (a : Nat) : Nat → FieldType := match a with
  | 0 => tyX0 | 1 => tyX1 | 2 => tyX2 | 3 => tyX3 | 4 => tyX4 | 5 => tyX5 | _ => tyX6
def ctR (a : Nat) : String := match a with
  | 0 => RX0 | 1 => RX1 | 2 => RX2 | 3 => RX3 | 4 => RX4 | 5 => RX5 | _ => RX6
def ctN (a : Nat) : Nat := match a with
  | 0 => 3 | 1 => 11 | 2 => 7 | 3 => 6 | 4 => 3 | 5 => 8 | _ => 23
theorem ct_cl {a : Nat} (h : a < 7) : vwCl[a]? = some (ctR a, ctT a, ctN a) := by
  rcases (show a = 0 ∨ a = 1 ∨ a = 2 ∨ a = 3 ∨ a = 4 ∨ a = 5 ∨ a = 6 by omega) with rfl | rfl | rfl | rfl | rfl | rfl | rfl <;> rfl
theorem ct_in0 : ∀ w ∈ u_ws RX0 TX0 3, w ∈ lw_g := by decide +kernel
theorem ct_in1 : ∀ w ∈ u_ws RX1 TX1 11, w ∈ lw_g := by decide +kernel
theorem ct_in2 : ∀ w ∈ u_ws RX2 TX2 7, w ∈ lw_g := by decide +kernel
theorem ct_in3 : ∀ w ∈ u_ws RX3 TX3 6, w ∈ lw_g := by decide +kernel
theorem ct_in4 : ∀ w ∈ u_ws RX4 TX4 3, w ∈ lw_g := by decide +kernel
theorem ct_in5 : ∀ w ∈ u_ws RX5 TX5 8, w ∈ lw_g := by decide +kernel
theorem ct_in6 : ∀ w ∈ u_ws RX6 TX6 23, w ∈ lw_g := by decide +kernel
theorem ct_in {a : Nat} (h : a < 7) : ∀ w ∈ u_ws (ctR a) (ctT a) (ctN a), w ∈ lw_g := by
  rcases (show a = 0 ∨ a = 1 ∨ a = 2 ∨ a = 3 ∨ a = 4 ∨ a = 5 ∨ a = 6 by omega) with rfl | rfl | rfl | rfl | rfl | rfl | rfl
  · exact ct_in0
  · exact ct_in1
  · exact ct_in2
  · exact ct_in3
  · exact ct_in4
  · exact ct_in5
  · exact ct_in6
theorem ct_ty {a : Nat} (h : a < 7) : ∀ k, k < ctN a → parseFieldDescriptor (ctT a k).2.2.1 = some (cty a k) := by
  rcases (show a = 0 ∨ a = 1 ∨ a = 2 ∨ a = 3 ∨ a = 4 ∨ a = 5 ∨ a = 6 by omega) with rfl | rfl | rfl | rfl | rfl | rfl | rfl
  · exact tyX0_ok
  · exact tyX1_ok
  · exact tyX2_ok
  · exact tyX3_ok
  · exact tyX4_ok
  · exact tyX5_ok
  · exact tyX6_ok
theorem ct_nm {a : Nat} (h : a < 7) : ∀ x, x < ctN a → ∀ y, y < ctN a → x ≠ y → (ctT a x).2.1 ≠ (ctT a y).2.1 := by
  rcases (show a = 0 ∨ a = 1 ∨ a = 2 ∨ a = 3 ∨ a = 4 ∨ a = 5 ∨ a = 6 by omega) with rfl | rfl | rfl | rfl | rfl | rfl | rfl
  · exact nmX0
  · exact nmX1
  · exact nmX2
  · exact nmX3
  · exact nmX4
  · exact nmX5
  · exact nmX6
theorem aw_get {g : Glob} {M : Mth} {Post : Option Value → AH → Prop} {cl sl pc : Nat} {ls : List (Option Value)} {st : List Value} {h : AH} {idx k a b : Nat} {fs : List Value} {v : Value} (hd : decode (m_cc M) pc = .ok (.getfield idx, 3)) (h7 : a < 7) (hb : b < ctN a) (hq : Cond.fieldLink (m_own M) idx (ctT a b).1 (ctT a b).2.1 (ctT a b).2.2.1 ∈ lw_g) (hk : hat h k = some (.inr (a, fs))) (hv : fs[b]? = some v) (K : AW g M Post cl sl (pc + 3) ls (v :: st) h) : AW g M Post cl sl pc ls (.ref k :: st) h := by
  intro p e s m args below meth c H locs lsA al0 n0 al C ha hw hl
  obtain ⟨hlt, hk⟩ := hat_some hk
  have hg := trW_get (g := g) (al := al) hk
  show W p (g_l g) e (m_room M) s m args below meth c H locs cl sl _ (F0 m pc lsA (.ref (trR g al k) :: st.map (trV g al)))
  rw [trR_lt hlt]
  exact va_get C.1 C.2.1 C.2.2.2.2.2.1 (ct_in h7) C.2.2.2.2.1 C.2.2.2.2.2.2.2.2.K hw.1 k hg (ct_cl h7) b hb (C.2.2.2.2.2.1 _ hq) (fun _ z => z) (v := trV g al v) (by rw [List.getElem?_map, hv]; rfl) hd (K p e s m args below meth c H locs lsA al0 n0 al C ha hw hl)
theorem agr_set {M : Mth} {al0 al : Nat → Nat} {n0 k : Nat} {h : AH} {e : va_E} (ha : agr M al0 n0 al h.length) : agr M al0 n0 al (h.set k e).length := by rw [List.length_set]; exact ha
theorem aw_put {g : Glob} {M : Mth} {Post : Option Value → AH → Prop} {cl sl pc : Nat} {ls : List (Option Value)} {st : List Value} {h : AH} {idx k a b : Nat} {fs : List Value} {v : Value} (hd : decode (m_cc M) pc = .ok (.putfield idx, 3)) (h7 : a < 7) (hb : b < ctN a) (hq : Cond.fieldLink (m_own M) idx (ctT a b).1 (ctT a b).2.1 (ctT a b).2.2.1 ∈ lw_g) (hk : hat h k = some (.inr (a, fs))) (hl2 : b < fs.length) (hf : (ctT a b).2.2.2 = false ∨ ((m_y M).name = "<init>" ∧ (ctT a b).1 = m_own M)) (hn : ∀ al, narrow (cty a b) (trV g al v) = trV g al v) (ht : ∀ al, fits (cty a b) (trV g al v) = true) (K : AW g M Post cl sl (pc + 3) ls st (h.set k (.inr (a, fs.set b v)))) : AW g M Post cl sl pc ls (v :: .ref k :: st) h := by
  intro p e s m args below meth c H locs lsA al0 n0 al C ha hw hl
  obtain ⟨hlt, hk⟩ := hat_some hk
  have hg := trW_get (g := g) (al := al) hk
  show W p (g_l g) e (m_room M) s m args below meth c H locs cl sl _ (F0 m pc lsA (trV g al v :: .ref (trR g al k) :: st.map (trV g al)))
  rw [trR_lt hlt]
  have key : ∀ (H1 : Heap) (locs1 : List Loc), va_P (g_D g) vwCl ((trW g al h).set k (al k, .inr (a, (fs.map (trV g al)).set b (trV g al v)))) H1 → va_D (g_A g) ((trW g al h).set k (al k, .inr (a, (fs.map (trV g al)).set b (trV g al v)))) → va_S (g_A g) s.heap H1 locs1 → W p (g_l g) e (m_room M) s m args below meth c H1 locs1 cl sl (MQ below (QC g M Post al0 n0) args s (m_mc M) (m_ms M) (g_A g)) (F0 m (pc + 3) lsA (st.map (trV g al))) := by
    intro H1 locs1 hP1 hD1 hS1
    have e1 : trW g al (h.set k (.inr (a, fs.set b v))) = (trW g al h).set k (al k, .inr (a, (fs.map (trV g al)).set b (trV g al v))) := by
      rw [trW_set]
      show (trW g al h).set k (al k, .inr (a, (fs.set b v).map (trV g al))) = _
      rw [List.map_set]
    exact K p e s m args below meth c H1 locs1 lsA al0 n0 al C (agr_set ha) ⟨by rw [e1]; exact hP1, by rw [e1]; exact hD1, hS1⟩ hl
  rcases hf with hf | ⟨hi, ho⟩
  · exact va_put C.1 C.2.1 C.2.2.2.2.2.1 (ct_in h7) (cty a) (ct_ty h7) (ct_nm h7) C.2.2.2.2.1 C.2.2.2.2.2.2.2.2.K hw.1 hw.2.1 hw.2.2 k hg (ct_cl h7) b hb (C.2.2.2.2.2.1 _ hq) (fun _ z => z) hf (ct_ty h7 b hb) (hn al) (ht al) (by rw [List.length_map]; exact hl2) hd key
  · cases hfin : (ctT a b).2.2.2 with
    | false => exact va_put C.1 C.2.1 C.2.2.2.2.2.1 (ct_in h7) (cty a) (ct_ty h7) (ct_nm h7) C.2.2.2.2.1 C.2.2.2.2.2.2.2.2.K hw.1 hw.2.1 hw.2.2 k hg (ct_cl h7) b hb (C.2.2.2.2.2.1 _ hq) (fun _ z => z) hfin (ct_ty h7 b hb) (hn al) (ht al) (by rw [List.length_map]; exact hl2) hd key
    | true => exact va_putF C.1 C.2.1 C.2.2.2.2.2.1 (ct_in h7) (cty a) (ct_ty h7) (ct_nm h7) C.2.2.2.2.1 C.2.2.2.2.2.2.2.2.K hw.1 hw.2.1 hw.2.2 k hg (ct_cl h7) b hb (C.2.2.2.2.2.1 _ hq) (fun _ z => z) hfin (C.2.2.2.2.2.2.2.1.trans hi) ho (ct_ty h7 b hb) (hn al) (ht al) (by rw [List.length_map]; exact hl2) hd key
theorem aw_iald {g : Glob} {M : Mth} {Post : Option Value → AH → Prop} {cl sl pc : Nat} {ls : List (Option Value)} {st : List Value} {h : AH} {k n : Nat} {f : Nat → Int32} {i : Int32} (hd : decode (m_cc M) pc = .ok (.iaload, 1)) (hk : hat h k = some (.inl (0, n, .inl f))) (hin : vp_in i n) (K : AW g M Post cl sl (pc + 1) ls (.int (f i.toNatClampNeg) :: st) h) : AW g M Post cl sl pc ls (.int i :: .ref k :: st) h := by
  intro p e s m args below meth c H locs lsA al0 n0 al C ha hw hl
  obtain ⟨hlt, hk⟩ := hat_some hk
  have hg : (trW g al h)[k]? = some (al k, .inl (g_c g 0, n, .inl f)) := trW_get (g := g) (al := al) hk
  show W p (g_l g) e (m_room M) s m args below meth c H locs cl sl _ (F0 m pc lsA (.int i :: .ref (trR g al k) :: st.map (trV g al)))
  rw [trR_lt hlt]
  exact va_iald C.1 C.2.1 C.2.2.2.2.2.2.2.2.K hw.1 k 0 hg rfl hin hd (K p e s m args below meth c H locs lsA al0 n0 al C ha hw hl)
theorem aw_zald {g : Glob} {M : Mth} {Post : Option Value → AH → Prop} {cl sl pc : Nat} {ls : List (Option Value)} {st : List Value} {h : AH} {k n : Nat} {f : Nat → Int32} {i : Int32} (hd : decode (m_cc M) pc = .ok (.baload, 1)) (hk : hat h k = some (.inl (1, n, .inl f))) (hin : vp_in i n) (K : AW g M Post cl sl (pc + 1) ls (.int (f i.toNatClampNeg) :: st) h) : AW g M Post cl sl pc ls (.int i :: .ref k :: st) h := by
  intro p e s m args below meth c H locs lsA al0 n0 al C ha hw hl
  obtain ⟨hlt, hk⟩ := hat_some hk
  have hg : (trW g al h)[k]? = some (al k, .inl (g_c g 1, n, .inl f)) := trW_get (g := g) (al := al) hk
  show W p (g_l g) e (m_room M) s m args below meth c H locs cl sl _ (F0 m pc lsA (.int i :: .ref (trR g al k) :: st.map (trV g al)))
  rw [trR_lt hlt]
  exact va_zald C.1 C.2.1 C.2.2.2.2.2.2.2.2.K hw.1 k 1 hg rfl hin hd (K p e s m args below meth c H locs lsA al0 n0 al C ha hw hl)
theorem aw_iast {g : Glob} {M : Mth} {Post : Option Value → AH → Prop} {cl sl pc : Nat} {ls : List (Option Value)} {st : List Value} {h : AH} {k n : Nat} {f : Nat → Int32} {i x : Int32} (hd : decode (m_cc M) pc = .ok (.iastore, 1)) (hk : hat h k = some (.inl (0, n, .inl f))) (hin : vp_in i n) (K : AW g M Post cl sl (pc + 1) ls st (h.set k (.inl (0, n, .inl (upd f i.toNatClampNeg x))))) : AW g M Post cl sl pc ls (.int x :: .int i :: .ref k :: st) h := by
  intro p e s m args below meth c H locs lsA al0 n0 al C ha hw hl
  obtain ⟨hlt, hk⟩ := hat_some hk
  have hg : (trW g al h)[k]? = some (al k, .inl (g_c g 0, n, .inl f)) := trW_get (g := g) (al := al) hk
  show W p (g_l g) e (m_room M) s m args below meth c H locs cl sl _ (F0 m pc lsA (.int x :: .int i :: .ref (trR g al k) :: st.map (trV g al)))
  rw [trR_lt hlt]
  refine va_iast C.1 C.2.1 C.2.2.2.2.2.2.2.2.K hw.1 hw.2.1 hw.2.2 k 0 hg rfl hin hd (fun H1 locs1 hP1 hD1 hS1 => ?_)
  have e1 : trW g al (h.set k (.inl (0, n, .inl (upd f i.toNatClampNeg x)))) = (trW g al h).set k (al k, .inl (g_c g 0, n, .inl (upd f i.toNatClampNeg x))) := trW_set
  exact K p e s m args below meth c H1 locs1 lsA al0 n0 al C (agr_set ha) ⟨by rw [e1]; exact hP1, by rw [e1]; exact hD1, hS1⟩ hl
theorem aw_zast {g : Glob} {M : Mth} {Post : Option Value → AH → Prop} {cl sl pc : Nat} {ls : List (Option Value)} {st : List Value} {h : AH} {k n : Nat} {f : Nat → Int32} {i x : Int32} (hd : decode (m_cc M) pc = .ok (.bastore, 1)) (hk : hat h k = some (.inl (1, n, .inl f))) (hin : vp_in i n) (K : AW g M Post cl sl (pc + 1) ls st (h.set k (.inl (1, n, .inl (upd f i.toNatClampNeg (vp_nar .boolean x)))))) : AW g M Post cl sl pc ls (.int x :: .int i :: .ref k :: st) h := by
  intro p e s m args below meth c H locs lsA al0 n0 al C ha hw hl
  obtain ⟨hlt, hk⟩ := hat_some hk
  have hg : (trW g al h)[k]? = some (al k, .inl (g_c g 1, n, .inl f)) := trW_get (g := g) (al := al) hk
  show W p (g_l g) e (m_room M) s m args below meth c H locs cl sl _ (F0 m pc lsA (.int x :: .int i :: .ref (trR g al k) :: st.map (trV g al)))
  rw [trR_lt hlt]
  refine va_zast C.1 C.2.1 C.2.2.2.2.2.2.2.2.K hw.1 hw.2.1 hw.2.2 k 1 hg rfl hin hd (fun H1 locs1 hP1 hD1 hS1 => ?_)
  have e1 : trW g al (h.set k (.inl (1, n, .inl (upd f i.toNatClampNeg (vp_nar .boolean x))))) = (trW g al h).set k (al k, .inl (g_c g 1, n, .inl (upd f i.toNatClampNeg (vp_nar .boolean x)))) := trW_set
  exact K p e s m args below meth c H1 locs1 lsA al0 n0 al C (agr_set ha) ⟨by rw [e1]; exact hP1, by rw [e1]; exact hD1, hS1⟩ hl
theorem aw_aald {g : Glob} {M : Mth} {Post : Option Value → AH → Prop} {cl sl pc : Nat} {ls : List (Option Value)} {st : List Value} {h : AH} {k n t q : Nat} {f : Nat → Option Nat} {i : Int32} (hd : decode (m_cc M) pc = .ok (.aaload, 1)) (ht : t = 2 ∨ t = 3) (hk : hat h k = some (.inl (t, n, .inr (.inr (.inr (.inr f)))))) (hin : vp_in i n) (hq : f i.toNatClampNeg = some q) (K : AW g M Post cl sl (pc + 1) ls (.ref q :: st) h) : AW g M Post cl sl pc ls (.int i :: .ref k :: st) h := by
  intro p e s m args below meth c H locs lsA al0 n0 al C ha hw hl
  obtain ⟨hlt, hk⟩ := hat_some hk
  have hg : (trW g al h)[k]? = some (al k, .inl (g_c g t, n, .inr (.inr (.inr (.inr (fun i => if i < n then (f i).map (trR g al) else none)))))) := trW_get (g := g) (al := al) hk
  show W p (g_l g) e (m_room M) s m args below meth c H locs cl sl _ (F0 m pc lsA (.int i :: .ref (trR g al k) :: st.map (trV g al)))
  rw [trR_lt hlt]
  have hlt2 : i.toNatClampNeg < n := Nat.not_le.mp fun z => hin (Or.inr z)
  have hKK := K p e s m args below meth c H locs lsA al0 n0 al C ha hw hl
  have hA : ∀ ty, (hty : ty.isReference = true) → ArrOfT s (g_c g t) ty → W p (g_l g) e (m_room M) s m args below meth c H locs cl sl (MQ below (QC g M Post al0 n0) args s (m_mc M) (m_ms M) (g_A g)) (F0 m pc lsA (.int i :: .ref (al k) :: st.map (trV g al))) := fun ty hty hO =>
    W.aald (v := .ref (trR g al q)) (ty := ty) C.1 C.2.1 (hw.1 k _ hg) (hO n (fun j => va_rf (if j < n then (f j).map (trR g al) else none))) hty (fun z => by cases z) (by show ¬ (i < 0 ∨ (arrV _ _ _).slots.size ≤ _); rw [arrV_size]; exact hin) (by show (arrV _ _ _).slots[_]? = _; rw [arrV_read _ _ hlt2]; simp only [hlt2, if_true, hq]; rfl) rfl rfl hd hKK
  rcases ht with rfl | rfl
  · exact hA (.object "SceneShots$Scene") rfl (C.2.2.2.2.2.2.2.2.K.2 2 _ rfl).1
  · exact hA (.array .int) rfl (C.2.2.2.2.2.2.2.2.K.2 3 _ rfl).1
theorem trC_up {g : Glob} {al : Nat → Nat} {n j q : Nat} {f : Nat → Option Nat} (hj : j < n) : (fun i => if i < n then (va_up f j (some q) i).map (trR g al) else none) = va_up (fun i => if i < n then (f i).map (trR g al) else none) j (some (trR g al q)) := by
  funext i
  by_cases hi : i = j
  · subst hi
    simp [va_up, hj]
  · simp [va_up, hi]
theorem aw_aast {g : Glob} {M : Mth} {Post : Option Value → AH → Prop} {cl sl pc : Nat} {ls : List (Option Value)} {st : List Value} {h : AH} {k n q : Nat} {fs : List Value} {f : Nat → Option Nat} {i : Int32} (hd : decode (m_cc M) pc = .ok (.aastore, 1)) (hk : hat h k = some (.inl (2, n, .inr (.inr (.inr (.inr f)))))) (hin : vp_in i n) (hq : hat h q = some (.inr (3, fs))) (K : AW g M Post cl sl (pc + 1) ls st (h.set k (.inl (2, n, .inr (.inr (.inr (.inr (va_up f i.toNatClampNeg (some q))))))))) : AW g M Post cl sl pc ls (.ref q :: .int i :: .ref k :: st) h := by
  intro p e s m args below meth c H locs lsA al0 n0 al C ha hw hl
  obtain ⟨hlt, hk⟩ := hat_some hk
  obtain ⟨hlq, hq⟩ := hat_some hq
  have hg : (trW g al h)[k]? = some (al k, .inl (g_c g 2, n, .inr (.inr (.inr (.inr (fun i => if i < n then (f i).map (trR g al) else none)))))) := trW_get (g := g) (al := al) hk
  have hgq : (trW g al h)[q]? = some (al q, .inr (3, fs.map (trV g al))) := trW_get (g := g) (al := al) hq
  show W p (g_l g) e (m_room M) s m args below meth c H locs cl sl _ (F0 m pc lsA (.ref (trR g al q) :: .int i :: .ref (trR g al k) :: st.map (trV g al)))
  rw [trR_lt hlt, trR_lt hlq]
  have hlt2 : i.toNatClampNeg < n := Nat.not_le.mp fun z => hin (Or.inr z)
  refine va_astq C.1 C.2.1 C.2.2.2.2.2.2.2.2.K hw.1 hw.2.1 hw.2.2 k 2 q 3 hg (r := (RX3, TX3, 6)) rfl hgq rfl hin hd (fun H1 locs1 hP1 hD1 hS1 => ?_)
  have e1 : trW g al (h.set k (.inl (2, n, .inr (.inr (.inr (.inr (va_up f i.toNatClampNeg (some q)))))))) = (trW g al h).set k (al k, .inl (g_c g 2, n, .inr (.inr (.inr (.inr (va_up (fun i => if i < n then (f i).map (trR g al) else none) i.toNatClampNeg (some (al q)))))))) := by
    rw [trW_set]
    show (trW g al h).set k (al k, .inl (g_c g 2, n, .inr (.inr (.inr (.inr (fun i_1 => if i_1 < n then (va_up f i.toNatClampNeg (some q) i_1).map (trR g al) else none)))))) = _
    rw [trC_up hlt2, trR_lt hlq]
  exact K p e s m args below meth c H1 locs1 lsA al0 n0 al C (agr_set ha) ⟨by rw [e1]; exact hP1, by rw [e1]; exact hD1, hS1⟩ hl
theorem Bh.T {g : Glob} {s : State} (hB : Bh g s) {ty : FieldType} {t N : Nat} {f : Nat → Value} (h : va_T ty t N f (g_A g) (g_s g) (g_s g).heap) : va_T ty t N f (g_A g) s s.heap := (h.kept hB.ke).moved hB.2.2.2.alike
theorem Bh.Z {g : Glob} {s : State} (hB : Bh g s) {C n d : String} {v : Value} (h : g_Z g C n d v) : va_Z C n d v (g_A g) s s.heap := (va_Z.kept h hB.ke).moved hB.2.2.2.alike
theorem aw_roI {g : Glob} {M : Mth} {Post : Option Value → AH → Prop} {cl sl pc : Nat} {ls : List (Option Value)} {st : List Value} {h : AH} {k n : Nat} {f : Nat → Int32} {i : Int32} (hd : decode (m_cc M) pc = .ok (.iaload, 1)) (hk0 : ¬ k < 1000) (hk : roI g k = some (n, f)) (hin : vp_in i n) (K : AW g M Post cl sl (pc + 1) ls (.int (f i.toNatClampNeg) :: st) h) : AW g M Post cl sl pc ls (.int i :: .ref k :: st) h := by
  intro p e s m args below meth c H locs lsA al0 n0 al C ha hw hl
  show W p (g_l g) e (m_room M) s m args below meth c H locs cl sl _ (F0 m pc lsA (.int i :: .ref (trR g al k) :: st.map (trV g al)))
  rw [trR_ge hk0]
  exact va_ti C.1 C.2.1 (C.2.2.2.2.2.2.2.2.T (C.2.2.2.2.2.2.2.2.1.2.1 k n f hk)) hw.2.2 hin rfl hd (K p e s m args below meth c H locs lsA al0 n0 al C ha hw hl)
theorem aw_roB {g : Glob} {M : Mth} {Post : Option Value → AH → Prop} {cl sl pc : Nat} {ls : List (Option Value)} {st : List Value} {h : AH} {k n : Nat} {f : Nat → Int32} {i : Int32} (hd : decode (m_cc M) pc = .ok (.baload, 1)) (hk0 : ¬ k < 1000) (hk : roB k = some (n, f)) (hin : vp_in i n) (K : AW g M Post cl sl (pc + 1) ls (.int (f i.toNatClampNeg) :: st) h) : AW g M Post cl sl pc ls (.int i :: .ref k :: st) h := by
  intro p e s m args below meth c H locs lsA al0 n0 al C ha hw hl
  show W p (g_l g) e (m_room M) s m args below meth c H locs cl sl _ (F0 m pc lsA (.int i :: .ref (trR g al k) :: st.map (trV g al)))
  rw [trR_ge hk0]
  exact va_tb C.1 C.2.1 (C.2.2.2.2.2.2.2.2.T (C.2.2.2.2.2.2.2.2.1.2.2.1 k n f hk)) hw.2.2 hin rfl hd (K p e s m args below meth c H locs lsA al0 n0 al C ha hw hl)
theorem aw_lenI {g : Glob} {M : Mth} {Post : Option Value → AH → Prop} {cl sl pc : Nat} {ls : List (Option Value)} {st : List Value} {h : AH} {k n : Nat} {f : Nat → Int32} (hd : decode (m_cc M) pc = .ok (.arraylength, 1)) (hk0 : ¬ k < 1000) (hk : roI g k = some (n, f)) (K : AW g M Post cl sl (pc + 1) ls (.int (Int32.ofNat n) :: st) h) : AW g M Post cl sl pc ls (.ref k :: st) h := by
  intro p e s m args below meth c H locs lsA al0 n0 al C ha hw hl
  show W p (g_l g) e (m_room M) s m args below meth c H locs cl sl _ (F0 m pc lsA (.ref (trR g al k) :: st.map (trV g al)))
  rw [trR_ge hk0]
  exact va_tlen C.1 C.2.1 (C.2.2.2.2.2.2.2.2.T (C.2.2.2.2.2.2.2.2.1.2.1 k n f hk)) hw.2.2 rfl hd (K p e s m args below meth c H locs lsA al0 n0 al C ha hw hl)
theorem aw_lenB {g : Glob} {M : Mth} {Post : Option Value → AH → Prop} {cl sl pc : Nat} {ls : List (Option Value)} {st : List Value} {h : AH} {k n : Nat} {f : Nat → Int32} (hd : decode (m_cc M) pc = .ok (.arraylength, 1)) (hk0 : ¬ k < 1000) (hk : roB k = some (n, f)) (K : AW g M Post cl sl (pc + 1) ls (.int (Int32.ofNat n) :: st) h) : AW g M Post cl sl pc ls (.ref k :: st) h := by
  intro p e s m args below meth c H locs lsA al0 n0 al C ha hw hl
  show W p (g_l g) e (m_room M) s m args below meth c H locs cl sl _ (F0 m pc lsA (.ref (trR g al k) :: st.map (trV g al)))
  rw [trR_ge hk0]
  exact va_tlen C.1 C.2.1 (C.2.2.2.2.2.2.2.2.T (C.2.2.2.2.2.2.2.2.1.2.2.1 k n f hk)) hw.2.2 rfl hd (K p e s m args below meth c H locs lsA al0 n0 al C ha hw hl)
def roN (b : Nat) : String × String := match b with
  | 0 => ("value", "[B")
  | _ => ("coder", "B")
theorem roF_OF {g : Glob} (hG : GOK g) {k b : Nat} {v : Value} (hk : roF k b = some v) : ¬ k < 1000 ∧ ∀ al, va_OF "java/lang/String" (roN b).1 (roN b).2 (trV g al v) (g_a g k) (g_A g) (g_s g) (g_s g).heap := by
  obtain ⟨-, -, -, ⟨h0, h1, h2⟩, -⟩ := hG
  unfold roF at hk
  split at hk
  · cases hk; exact ⟨by decide, fun _ => h0.2.1⟩
  · cases hk; exact ⟨by decide, fun _ => h1.2.1⟩
  · cases hk; exact ⟨by decide, fun _ => h2.2.1⟩
  · cases hk; exact ⟨by decide, fun _ => h0.2.2⟩
  · cases hk; exact ⟨by decide, fun _ => h1.2.2⟩
  · cases hk; exact ⟨by decide, fun _ => h2.2.2⟩
  · cases hk
theorem aw_roF {g : Glob} {M : Mth} {Post : Option Value → AH → Prop} {cl sl pc : Nat} {ls : List (Option Value)} {st : List Value} {h : AH} {idx k b : Nat} {v : Value} (hd : decode (m_cc M) pc = .ok (.getfield idx, 3)) (hq : Cond.fieldLink (m_own M) idx "java/lang/String" (roN b).1 (roN b).2 ∈ lw_g) (hk : roF k b = some v) (K : AW g M Post cl sl (pc + 3) ls (v :: st) h) : AW g M Post cl sl pc ls (.ref k :: st) h := by
  intro p e s m args below meth c H locs lsA al0 n0 al C ha hw hl
  have hB := C.2.2.2.2.2.2.2.2
  obtain ⟨hk0, hO⟩ := roF_OF hB.1 hk
  show W p (g_l g) e (m_room M) s m args below meth c H locs cl sl _ (F0 m pc lsA (.ref (trR g al k) :: st.map (trV g al)))
  rw [trR_ge hk0]
  obtain ⟨cf, kk, fi, f, cell, h1, h2, h3, h4, h5, h6⟩ := (((hO al).kept hB.ke).moved hB.2.2.2.alike).kept hw.2.2.2.1
  exact W.getf C.1 C.2.1 C.2.2.2.2.1 (C.2.2.2.2.2.1 _ hq) h1 h2 h3 h4 (v := trV g al v) h5 rfl rfl hd (K p e s m args below meth c H locs lsA al0 n0 al C ha hw hl)
theorem aw_gsN {g : Glob} {M : Mth} {Post : Option Value → AH → Prop} {cl sl pc : Nat} {ls : List (Option Value)} {st : List Value} {h : AH} {idx : Nat} {k : Nat} {C0 n d ref host : String} (hd : decode (m_cc M) pc = .ok (.getstatic idx, 3)) (hq : Cond.fieldLinkNest (m_own M) idx C0 n d host ∈ lw_tbl) (hk0 : ¬ k < 1000) (hZ : GOK g → g_Z g C0 n d (.ref (g_a g k))) (K : AW g M Post cl sl (pc + 3) ls (.ref k :: st) h) : AW g M Post cl sl pc ls st h := by
  intro p e s m args below meth c H locs lsA al0 n0 al C ha hw hl
  have hK := K p e s m args below meth c H locs lsA al0 n0 al C ha hw hl
  have e1 : (Value.ref k :: st).map (trV g al) = .ref (g_a g k) :: st.map (trV g al) := by
    show Value.ref (trR g al k) :: _ = _
    rw [trR_ge hk0]
  rw [e1] at hK
  exact va_getsN C.1 C.2.1 (C.2.2.2.2.2.2.2.2.Z (hZ C.2.2.2.2.2.2.2.2.1)) hw.2.2 C.2.2.2.2.1 (va_Nw.use rfl ((C.2.2.2.2.2.2.2.2.1.2.2.2.2.2.2.2.2 _ hq rfl).warmF C.2.2.2.2.2.2.2.2.2.2.2)) (fun _ z => z) hd hK
theorem aw_gsI {g : Glob} {M : Mth} {Post : Option Value → AH → Prop} {cl sl pc : Nat} {ls : List (Option Value)} {st : List Value} {h : AH} {idx : Nat} {x : Int32} {C0 n d : String} (hd : decode (m_cc M) pc = .ok (.getstatic idx, 3)) (hq : Cond.fieldLink (m_own M) idx C0 n d ∈ lw_g) (hZ : GOK g → g_Z g C0 n d (.int x)) (K : AW g M Post cl sl (pc + 3) ls (.int x :: st) h) : AW g M Post cl sl pc ls st h := by
  intro p e s m args below meth c H locs lsA al0 n0 al C ha hw hl
  exact va_gets C.1 C.2.1 (C.2.2.2.2.2.2.2.2.Z (hZ C.2.2.2.2.2.2.2.2.1)) hw.2.2 C.2.2.2.2.1 (C.2.2.2.2.2.1 _ hq) (fun _ z => z) hd (K p e s m args below meth c H locs lsA al0 n0 al C ha hw hl)
theorem aw_gsF {g : Glob} {M : Mth} {Post : Option Value → AH → Prop} {cl sl pc : Nat} {ls : List (Option Value)} {st : List Value} {h : AH} {idx : Nat} (hd : decode (m_cc M) pc = .ok (.getstatic idx, 3)) (hq : Cond.fieldLink (m_own M) idx "jdk/internal/util/Preconditions" "SIOOBE_FORMATTER" "Ljava/util/function/BiFunction;" ∈ lw_g) (K1 : AW g M Post cl sl (pc + 3) ls (.null :: st) h) (K2 : AW g M Post cl sl (pc + 3) ls (.ref 1020 :: st) h) : AW g M Post cl sl pc ls st h := by
  intro p e s m args below meth c H locs lsA al0 n0 al C ha hw hl
  have hB := C.2.2.2.2.2.2.2.2
  rcases hB.1.2.2.2.2.2.2.1 with hZ | hZ
  · exact va_gets C.1 C.2.1 (hB.Z hZ) hw.2.2 C.2.2.2.2.1 (C.2.2.2.2.2.1 _ hq) (fun _ z => z) hd (K1 p e s m args below meth c H locs lsA al0 n0 al C ha hw hl)
  · exact va_gets C.1 C.2.1 (hB.Z hZ) hw.2.2 C.2.2.2.2.1 (C.2.2.2.2.2.1 _ hq) (fun _ z => z) hd (K2 p e s m args below meth c H locs lsA al0 n0 al C ha hw hl)
theorem aw_ldcS {g : Glob} {M : Mth} {Post : Option Value → AH → Prop} {cl sl pc : Nat} {ls : List (Option Value)} {st : List Value} {h : AH} {idx k : Nat} {tx : String} (hd : decode (m_cc M) pc = .ok (.ldc idx, 2)) (hk0 : ¬ k < 1000) (hZ : GOK g → vk_R (m_own M) idx tx (g_a g k) (g_s g)) (K : AW g M Post cl sl (pc + 2) ls (.ref k :: st) h) : AW g M Post cl sl pc ls st h := by
  intro p e s m args below meth c H locs lsA al0 n0 al C ha hw hl
  have hB := C.2.2.2.2.2.2.2.2
  have hK := K p e s m args below meth c H locs lsA al0 n0 al C ha hw hl
  have e1 : (Value.ref k :: st).map (trV g al) = .ref (g_a g k) :: st.map (trV g al) := by
    show Value.ref (trR g al k) :: _ = _
    rw [trR_ge hk0]
  rw [e1] at hK
  exact va_ldcS C.1 C.2.1 C.2.2.2.2.1 ((hZ hB.1).warm hB.2.2.2) hd hK
theorem aw_tsw {g : Glob} {M : Mth} {Post : Option Value → AH → Prop} {cl sl pc : Nat} {ls : List (Option Value)} {st : List Value} {h : AH} {dflt lo hi : Int} {offs : Array Int} {len : Nat} {x : Int32} {t : Nat} (hd : decode (m_cc M) pc = .ok (.tableswitch dflt lo hi offs, len)) (ht : (pc : Int) + dflt = (t : Int)) (K1 : x.toInt < lo ∨ hi < x.toInt → AW g M Post cl sl t ls st h) (K2 : ¬ x.toInt < lo → ¬ hi < x.toInt → ∃ (off : Int) (u : Nat), offs[(x.toInt - lo).toNat]? = some off ∧ (pc : Int) + off = (u : Int) ∧ AW g M Post cl sl u ls st h) : AW g M Post cl sl pc ls (.int x :: st) h := by
  intro p e s m args below meth c H locs lsA al0 n0 al C ha hw hl
  by_cases hx : x.toInt < lo ∨ hi < x.toInt
  · exact lv_tableOut C.1 C.2.1 hd hx ht (K1 hx p e s m args below meth c H locs lsA al0 n0 al C ha hw hl)
  · have h1 : ¬ x.toInt < lo := fun z => hx (Or.inl z)
    have h2 : ¬ hi < x.toInt := fun z => hx (Or.inr z)
    obtain ⟨off, u, ho, hu, K⟩ := K2 h1 h2
    exact lv_tableIn C.1 C.2.1 hd h1 h2 ho hu (K p e s m args below meth c H locs lsA al0 n0 al C ha hw hl)
theorem aw_zret {g : Glob} {M : Mth} {Post : Option Value → AH → Prop} {cl sl pc : Nat} {ls : List (Option Value)} {st : List Value} {h : AH} {ty : FieldType} {v : Int32} (hd : decode (m_cc M) pc = .ok (.ireturn, 1)) (hr : m_ret M = some ty) (hn : narrow ty (.int v) = .int v) (hc : cl ≤ m_mc M) (hs : sl ≤ m_ms M) (hP : Post (some (.int v)) h) : AW g M Post cl sl pc ls [.int v] h := by
  intro p e s m args below meth c H locs lsA al0 n0 al C ha hw hl
  refine W.widen (k := m_mc M) (n := m_ms M) hc hs ?_
  exact W.zret C.1 C.2.1 (C.2.2.1.trans hr) hn (fun t ht hW => ⟨some (.int v), h, al, rfl, hP, ha, by rw [ht]; exact hw.1, hw.2.1, hw.2.2.F ht⟩) hw.2.2.2.2 hd C.2.2.2.2.2.2.1
theorem aw_vret {g : Glob} {M : Mth} {Post : Option Value → AH → Prop} {cl sl pc : Nat} {ls : List (Option Value)} {st : List Value} {h : AH} (hd : decode (m_cc M) pc = .ok (.return_, 1)) (hr : m_ret M = none) (hc : cl ≤ m_mc M) (hs : sl ≤ m_ms M) (hP : Post none h) : AW g M Post cl sl pc ls [] h := by
  intro p e s m args below meth c H locs lsA al0 n0 al C ha hw hl
  refine W.widen (k := m_mc M) (n := m_ms M) hc hs ?_
  exact W.vret C.1 C.2.1 (C.2.2.1.trans hr) (fun t ht hW => ⟨none, h, al, rfl, hP, ha, by rw [ht]; exact hw.1, hw.2.1, hw.2.2.F ht⟩) hw.2.2.2.2 hd C.2.2.2.2.2.2.1
theorem aw_lret {g : Glob} {M : Mth} {Post : Option Value → AH → Prop} {cl sl pc : Nat} {ls : List (Option Value)} {st : List Value} {h : AH} {v : Int64} (hd : decode (m_cc M) pc = .ok (.lreturn, 1)) (hr : m_ret M = some .long) (hc : cl ≤ m_mc M) (hs : sl ≤ m_ms M) (hP : Post (some (.long v)) h) : AW g M Post cl sl pc ls [.long v] h := by
  intro p e s m args below meth c H locs lsA al0 n0 al C ha hw hl
  refine W.widen (k := m_mc M) (n := m_ms M) hc hs ?_
  exact W.lret C.1 C.2.1 (C.2.2.1.trans hr) (fun t ht hW => ⟨some (.long v), h, al, rfl, hP, ha, by rw [ht]; exact hw.1, hw.2.1, hw.2.2.F ht⟩) hw.2.2.2.2 hd C.2.2.2.2.2.2.1
theorem aw_fret {g : Glob} {M : Mth} {Post : Option Value → AH → Prop} {cl sl pc : Nat} {ls : List (Option Value)} {st : List Value} {h : AH} {v : UInt32} (hd : decode (m_cc M) pc = .ok (.freturn, 1)) (hr : m_ret M = some .float) (hc : cl ≤ m_mc M) (hs : sl ≤ m_ms M) (hP : Post (some (.float v)) h) : AW g M Post cl sl pc ls [.float v] h := by
  intro p e s m args below meth c H locs lsA al0 n0 al C ha hw hl
  refine W.widen (k := m_mc M) (n := m_ms M) hc hs ?_
  exact W.fret C.1 C.2.1 (C.2.2.1.trans hr) (fun t ht hW => ⟨some (.float v), h, al, rfl, hP, ha, by rw [ht]; exact hw.1, hw.2.1, hw.2.2.F ht⟩) hw.2.2.2.2 hd C.2.2.2.2.2.2.1
end
section
theorem gd_w {w : Cond} (h : w ∈ lw_g) : w ∈ lw_g ∧ ((w.onTables && w.keeps) = true ∨ ∃ ty, w = .arrayClass ty) := ⟨h, good_of_word (List.mem_filter.mp h).2⟩
theorem gd_ws {M : Mth} (hc : Cond.code (m_y M) (m_cc M) (m_nL M) (m_ret M) ∈ lw_g) : GoodIn lw_g (m_ws M) := by
  intro w hw
  rcases List.mem_cons.mp hw with rfl | hw
  · exact gd_w hc
  · exact gd_w hw
theorem gd_l4 {w1 w2 w3 w4 : Cond} {ws : List Cond} (h1 : w1 ∈ lw_g) (h2 : w2 ∈ lw_g) (h3 : w3 ∈ lw_g) (h4 : w4 ∈ lw_g) (hw : GoodIn lw_g ws) : GoodIn lw_g ([w1, w2, w3, w4] ++ ws) := by
  intro w hm
  rcases List.mem_append.mp hm with hm | hm
  · simp only [List.mem_cons, List.not_mem_nil, or_false] at hm
    rcases hm with rfl | rfl | rfl | rfl
    · exact gd_w h1
    · exact gd_w h2
    · exact gd_w h3
    · exact gd_w h4
  · exact hw w hm
theorem gd_l3 {w1 w2 w3 : Cond} {ws : List Cond} (h1 : w1 ∈ lw_g) (h2 : w2 ∈ lw_g) (h3 : w3 ∈ lw_g) (hw : GoodIn lw_g ws) : GoodIn lw_g ([w1, w2, w3] ++ ws) := by
  intro w hm
  rcases List.mem_append.mp hm with hm | hm
  · simp only [List.mem_cons, List.not_mem_nil, or_false] at hm
    rcases hm with rfl | rfl | rfl
    · exact gd_w h1
    · exact gd_w h2
    · exact gd_w h3
  · exact hw w hm
/-! other addresses for new places -/
theorem okV_tr {g : Glob} {al al' : Nat → Nat} {n : Nat} (hn : n ≤ 1000) (hal : ∀ k, k < n → al' k = al k) {v : Value} (h : okV n v = true) : trV g al' v = trV g al v := by
  cases v <;> try rfl
  rename_i k
  show Value.ref (trR g al' k) = Value.ref (trR g al k)
  have h1 : k < n ∨ 1000 ≤ k := by
    simp only [okV, Bool.or_eq_true] at h
    rcases h with h | h
    · exact Or.inl (Nat.le_of_ble_eq_true h)
    · exact Or.inr (Nat.le_of_ble_eq_true h)
  rcases h1 with h1 | h1
  · rw [trR_lt (Nat.lt_of_lt_of_le h1 hn), trR_lt (Nat.lt_of_lt_of_le h1 hn), hal k h1]
  · rw [trR_ge (Nat.not_lt.mpr h1), trR_ge (Nat.not_lt.mpr h1)]
theorem okR_tr {g : Glob} {al al' : Nat → Nat} {n : Nat} (hn : n ≤ 1000) (hal : ∀ k, k < n → al' k = al k) {o : Option Nat} (h : okR n o = true) : o.map (trR g al') = o.map (trR g al) := by
  cases o with
  | none => rfl
  | some k =>
    have h1 : k < n ∨ 1000 ≤ k := by
      simp only [okR, Bool.or_eq_true] at h
      rcases h with h | h
      · exact Or.inl (Nat.le_of_ble_eq_true h)
      · exact Or.inr (Nat.le_of_ble_eq_true h)
    show some (trR g al' k) = some (trR g al k)
    rcases h1 with h1 | h1
    · rw [trR_lt (by omega), trR_lt (by omega), hal k h1]
    · rw [trR_ge (by omega), trR_ge (by omega)]
theorem okS_tr {g : Glob} {al al' : Nat → Nat} {n : Nat} (hn : n ≤ 1000) (hal : ∀ k, k < n → al' k = al k) {st : List Value} (h : okS n st = true) : st.map (trV g al') = st.map (trV g al) :=
  List.map_congr_left (fun v hv => okV_tr hn hal (List.all_eq_true.mp h v hv))
theorem okL_tr {g : Glob} {al al' : Nat → Nat} {n : Nat} (hn : n ≤ 1000) (hal : ∀ k, k < n → al' k = al k) {ls : List (Option Value)} (h : okL n ls = true) {lsA : Array Slot} {nL : Nat} (hl : LH g al lsA nL ls) : LH g al' lsA nL ls := by
  refine ⟨hl.1, hl.2.1, fun k v hk => ?_⟩
  rw [okV_tr hn hal (List.all_eq_true.mp h (some v) (List.mem_of_getElem? hk))]
  exact hl.2.2 k v hk
theorem okE_tr {g : Glob} {al al' : Nat → Nat} {n : Nat} (hn : n ≤ 1000) (hal : ∀ k, k < n → al' k = al k) {e : va_E} (h : okE n e = true) : trE g al' e = trE g al e := by
  rcases e with ⟨t, m, c⟩ | ⟨ci, fs⟩
  · rcases c with f | f | f | f | f
    · rfl
    · rfl
    · rfl
    · rfl
    · show Sum.inl (g_c g t, m, Sum.inr (Sum.inr (Sum.inr (Sum.inr (fun i => if i < m then (f i).map (trR g al') else none))))) = Sum.inl (g_c g t, m, Sum.inr (Sum.inr (Sum.inr (Sum.inr (fun i => if i < m then (f i).map (trR g al) else none)))))
      have e1 : (fun i => if i < m then (f i).map (trR g al') else none) = (fun i => if i < m then (f i).map (trR g al) else none) := by
        funext i
        by_cases hi : i < m
        · rw [if_pos hi, if_pos hi]
          exact okR_tr hn hal (List.all_eq_true.mp h i (List.mem_range.mpr hi))
        · rw [if_neg hi, if_neg hi]
      rw [e1]
  · show Sum.inr (ci, fs.map (trV g al')) = Sum.inr (ci, fs.map (trV g al))
    rw [okS_tr hn hal h]
theorem okW_tr {g : Glob} {al al' : Nat → Nat} {h : AH} (hok : okH h = true) (hal : ∀ k, k < h.length → al' k = al k) : trW g al' h = trW g al h := by
  simp only [okH, Bool.and_eq_true] at hok
  have hn : h.length ≤ 900 := Nat.le_of_ble_eq_true hok.1
  apply List.ext_getElem?
  intro j
  unfold trW
  rw [List.getElem?_mapIdx, List.getElem?_mapIdx]
  cases hj : h[j]? with
  | none => rfl
  | some e =>
    have hlt : j < h.length := (List.getElem?_eq_some_iff.mp hj).1
    show some (al' j, trE g al' e) = some (al j, trE g al e)
    rw [hal j hlt, okE_tr (by omega) hal (List.all_eq_true.mp hok.2 e (List.mem_of_getElem? hj))]
theorem trW_app {g : Glob} {al : Nat → Nat} {h h2 : AH} : trW g al (h ++ h2) = trW g al h ++ h2.mapIdx (fun k e => (al (k + h.length), trE g al e)) := by
  unfold trW
  rw [List.mapIdx_append]
theorem trW_len {g : Glob} {al : Nat → Nat} {h : AH} : (trW g al h).length = h.length := by unfold trW; rw [List.length_mapIdx]

/-- behind a call -/
theorem aw_after {g : Glob} {M : Mth} {Post : Option Value → AH → Prop} {cl sl pc : Nat} {ls : List (Option Value)} {st : List Value} {h : AH} {M' : Mth} {Post' : Option Value → AH → Prop} {p : Program} {e : Env} {s : State} {m : MethodId} {args : Array Value} {below : List Frame} {meth : Method} {c : Code} {H : Heap} {locs : List Loc} {lsA : Array Slot} {al0 : Nat → Nat} {n0 : Nat} {al : Nat → Nat} {st0 : List Value} {a9 : Array Value}
    (C : Cx g M p s m args meth c) (ha : agr M al0 n0 al h.length) (hw : Wd g al h s H locs) (hl : LH g al lsA (m_nL M) ls)
    (hr : va_Run p (g_l g) e (m_room M) s m args below meth c H locs cl sl (m_mc M') (m_ms M') (F0 m pc lsA st0) (st.map (trV g al)) (QC g M' Post' al h.length a9) (g_A g))
    (hm : cl + m_mc M' ≤ m_mc M) (hok : m_mc M' = 0 ∨ (h.length ≤ 1000 ∧ okS h.length st = true ∧ okL h.length ls = true))
    (K : ∀ rv h', Post' rv h' → AW g M Post (cl + m_mc M') (sl + m_ms M') (pc + 3) ls (rv.toList ++ st) h') :
    W p (g_l g) e (m_room M) s m args below meth c H locs cl sl (MQ below (QC g M Post al0 n0) args s (m_mc M) (m_ms M) (g_A g)) (F0 m pc lsA st0) := by
  intro T hT X
  obtain ⟨v, s9, t, T', L, h0, X', hL, e1, e2, ⟨rv, h', al', hv, hp, hg', hP', hD', hz, hk⟩, stp⟩ := hr T hT X
  cases hv
  rw [h0] at hz hk
  have hal : ∀ k, k < h.length → al' k = al k := hg'.2.1
  have est : st.map (trV g al') = st.map (trV g al) := by
    rcases hok with h1 | ⟨h1, h2, -⟩
    · rw [hg'.1 h1]
    · exact okS_tr h1 hal h2
  have hl' : LH g al' lsA (m_nL M) ls := by
    rcases hok with h1 | ⟨h1, -, h2⟩
    · rw [hg'.1 h1]; exact hl
    · exact okL_tr h1 hal h2 hl
  have ha' : agr M al0 n0 al' h'.length := by
    refine ⟨fun h1 => ?_, fun k hk => ?_, Nat.le_trans ha.2.2 hg'.2.2⟩
    · rw [hg'.1 (by omega), ha.1 h1]
    · rw [hal k (Nat.lt_of_lt_of_le hk ha.2.2), ha.2.1 k hk]
  obtain ⟨t2, a1, b1⟩ := K rv h' hp p e s m args below meth c T'.heap (locs ++ L) lsA al0 n0 al' C ha' ⟨by rw [e1]; exact hP', hD', Nat.le_trans hw.2.2.1 (by rw [e1]; exact hz), fun q h1 h2 => by rw [e1, hk q (Nat.lt_of_lt_of_le h1 hw.2.2.1) h2]; exact hw.2.2.2.1 q h1 h2, fun q hq => by
      rcases List.mem_append.mp hq with hq | hq
      · exact hw.2.2.2.2 q hq
      · exact hL q hq⟩ hl' T' rfl X'
  refine ⟨t2, stp t2 ?_, b1⟩
  have es : (rv.toList ++ st).map (trV g al') = (rv.map (trV g al')).toList ++ st.map (trV g al) := by
    rw [List.map_append, est]
    cases rv <;> rfl
  rw [es] at a1
  exact a1
theorem PU_of {g : Glob} {al : Nat → Nat} {h : AH} {s U : State} {H : Heap} {locs : List Loc} (hB : Bh g s) (hw : Wd g al h s H locs) (hU : U.heap = H) (hW : s.WarmedH U.vm) : PU g al h U := by
  refine ⟨⟨hB.1, ?_, fun q hq => ?_, hB.2.2.2.trans hW⟩, by rw [hU]; exact hw.1, hw.2.1⟩
  · rw [hU]; exact Nat.le_trans hB.2.1 hw.2.2.1
  · rw [hU, hw.2.2.2.1 q (Nat.lt_of_lt_of_le hq hB.2.1) (Nat.not_le.mpr hq)]
    exact hB.2.2.1 q hq
theorem PU_blind {g : Glob} {al : Nat → Nat} {h : AH} {av : List Value} : FrameBlind (va_Pc av (PU g al h)) := fun _ _ _ _ q => q
/-- what a call needs of its callee's words -/
def MOK (M : Mth) : Prop := Cond.code (m_y M) (m_cc M) (m_nL M) (m_ret M) ∈ lw_g ∧ Cond.initialized (m_y M).cls ∈ lw_g ∧ ((m_y M).cls ≠ "java/lang/invoke/MethodHandle" ∧ (m_y M).cls ≠ "java/lang/invoke/VarHandle" ∧ (parseMethodDescriptor (m_y M).desc).map (fun d => d.parameters.length) = some (m_np M))
def ROK (M M' : Mth) : Prop := m_dep M' + 1 ≤ m_dep M ∧ 8 + (m_nL M' + 11) + 40 * m_dep M' ≤ 40 * m_dep M
theorem map_rev {g : Glob} {al : Nat → Nat} {As st : List Value} : (As.reverse ++ st).map (trV g al) = (As.map (trV g al)).reverse ++ st.map (trV g al) := by rw [List.map_append, List.map_reverse]
theorem cat_sum {g : Glob} {al : Nat → Nat} {st : List Value} (h : (st.map fun v => v.category).sum ≤ 8) : ((st.map (trV g al)).map fun v => v.category).sum ≤ 8 := by
  rw [List.map_map, show ((fun v : Value => v.category) ∘ trV g al) = (fun v => v.category) from funext (fun v => trV_cat g al v)]
  exact h
theorem aw_callV {g : Glob} {M : Mth} {Post : Option Value → AH → Prop} {cl sl pc : Nat} {ls : List (Option Value)} {st : List Value} {h : AH} {M' : Mth} {idx b : Nat} {As : List Value} (hd : decode (m_cc M) pc = .ok (.invokevirtual idx, 3)) (hM : MOK M') (hR : ROK M M') (hq : Cond.methodLink (m_own M) idx (m_y M') ∈ lw_g) (hi : Cond.instanceMethod (m_y M') ∈ lw_g) (hse : Cond.selects (m_y M').cls (m_y M') (m_y M') ∈ lw_g)
    (hrec : (∃ a fs, a < 7 ∧ hat h b = some (.inr (a, fs)) ∧ ctR a = (m_y M').cls) ∨ ((b = 1000 ∨ b = 1001 ∨ b = 1002) ∧ (m_y M').cls = "java/lang/String"))
    (hn : As.length = m_np M') (hcat : (st.map fun v => v.category).sum ≤ 8) (hm : cl + m_mc M' ≤ m_mc M ∧ sl + m_ms M' ≤ m_ms M) (hok : m_mc M' = 0 ∨ (h.length ≤ 1000 ∧ okS h.length st = true ∧ okL h.length ls = true))
    (K : AC g M' (.ref b :: As) h (fun rv h' => AW g M Post (cl + m_mc M') (sl + m_ms M') (pc + 3) ls (rv.toList ++ st) h')) : AW g M Post cl sl pc ls (As.reverse ++ .ref b :: st) h := by
  intro p e s m args below meth c H locs lsA al0 n0 al C ha hw hl
  have hB := C.2.2.2.2.2.2.2.2
  have hcell : ∃ cellB : Cell, H[trR g al b]? = some cellB ∧ cellB.vm.isStatics = false ∧ s.vm.findClass (m_y M').cls = some cellB.cls := by
    rcases hrec with ⟨a, fs, h7, hb, hC⟩ | ⟨hb, hC⟩
    · obtain ⟨hlt, hb⟩ := hat_some hb
      rw [trR_lt hlt]
      obtain ⟨cell, z1, z2, z3⟩ := va_recv hB.K hw.1 (ct_cl h7) (trW_get hb)
      exact ⟨cell, z1, z2, by rw [← hC]; exact z3⟩
    · have hO : ∀ k j, g_O g k j → ¬ k < 1000 → ∃ cellB : Cell, H[trR g al k]? = some cellB ∧ cellB.vm.isStatics = false ∧ s.vm.findClass (m_y M').cls = some cellB.cls := by
        intro k j hO hk
        rw [trR_ge hk, hC]
        exact va_Orecv ((hO.1.kept hB.ke).moved hB.2.2.2.alike) hw.2.2
      obtain ⟨o0, o1, o2⟩ := hB.1.2.2.2.1
      rcases hb with rfl | rfl | rfl
      · exact hO _ _ o0 (by decide)
      · exact hO _ _ o1 (by decide)
      · exact hO _ _ o2 (by decide)
  refine aw_after C ha hw hl (va_runV (As := As.map (trV g al)) ⟨C.1, C.2.1, C.2.2.2.1, C.2.2.2.2.1, C.2.2.2.2.2.1⟩ (K al) (cwV (m_np M') C.2.2.2.2.2.1 (gd_l4 hq hi hse hM.2.1 (gd_ws hM.1)) rfl rfl rfl ⟨rfl, hM.2.2⟩ hR) ⟨PU_blind, hcell, fun U hU hW => ⟨rfl, PU_of hB hw hU hW⟩⟩ rfl (by rw [List.length_map]; exact hn) hl.1 map_rev (lv_room (cat_sum hcat)) hd hm) hm.1 hok (fun rv h' z => z)
theorem aw_callS {g : Glob} {M : Mth} {Post : Option Value → AH → Prop} {cl sl pc : Nat} {ls : List (Option Value)} {st : List Value} {h : AH} {M' : Mth} {idx : Nat} {As : List Value} (hd : decode (m_cc M) pc = .ok (.invokestatic idx, 3)) (hM : MOK M') (hR : ROK M M') (hq : Cond.methodLink (m_own M) idx (m_y M') ∈ lw_g) (hi : Cond.static (m_y M') ∈ lw_g)
    (hn : As.length = m_np M') (hcat : (st.map fun v => v.category).sum ≤ 8) (hm : cl + m_mc M' ≤ m_mc M ∧ sl + m_ms M' ≤ m_ms M) (hok : m_mc M' = 0 ∨ (h.length ≤ 1000 ∧ okS h.length st = true ∧ okL h.length ls = true))
    (K : AC g M' As h (fun rv h' => AW g M Post (cl + m_mc M') (sl + m_ms M') (pc + 3) ls (rv.toList ++ st) h')) : AW g M Post cl sl pc ls (As.reverse ++ st) h := by
  intro p e s m args below meth c H locs lsA al0 n0 al C ha hw hl
  have hB := C.2.2.2.2.2.2.2.2
  refine aw_after C ha hw hl (va_runS (As := As.map (trV g al)) ⟨C.1, C.2.1, C.2.2.2.1, C.2.2.2.2.1, C.2.2.2.2.2.1⟩ (K al) (va_cwS (m_np M') C.2.2.2.2.2.1 (gd_l3 hq hi hM.2.1 (gd_ws hM.1)) rfl rfl rfl hM.2.2 hR) ⟨PU_blind, fun U hU hW => ⟨rfl, PU_of hB hw hU hW⟩⟩ rfl (by rw [List.length_map]; exact hn) hl.1 map_rev (lv_room (cat_sum hcat)) hd hm) hm.1 hok (fun rv h' z => z)
theorem aw_callI {g : Glob} {M : Mth} {Post : Option Value → AH → Prop} {cl sl pc : Nat} {ls : List (Option Value)} {st : List Value} {h : AH} {M' : Mth} {idx b : Nat} {As : List Value} (hd : decode (m_cc M) pc = .ok (.invokespecial idx, 3)) (hM : MOK M') (hR : ROK M M') (hq : Cond.methodLink (m_own M) idx (m_y M') ∈ lw_g ∨ ∃ host, Cond.methodLinkNest (m_own M) idx (m_y M') host ∈ lw_tbl) (hi : Cond.instanceMethod (m_y M') ∈ lw_g) (hy : (m_y M').name = "<init>") (hr0 : m_ret M' = none)
    (hn : As.length = m_np M') (hcat : (st.map fun v => v.category).sum ≤ 8) (hm : cl + m_mc M' ≤ m_mc M ∧ sl + m_ms M' ≤ m_ms M) (hok : m_mc M' = 0 ∨ (h.length ≤ 1000 ∧ okS h.length st = true ∧ okL h.length ls = true))
    (K : AC g M' (.ref b :: As) h (fun rv h' => AW g M Post (cl + m_mc M') (sl + m_ms M') (pc + 3) ls (rv.toList ++ st) h')) : AW g M Post cl sl pc ls (As.reverse ++ .ref b :: st) h := by
  intro p e s m args below meth c H locs lsA al0 n0 al C ha hw hl
  have hB := C.2.2.2.2.2.2.2.2
  have hws : m_ws M' = Cond.code (m_y M') (m_cc M') (m_nL M') none :: lw_g := by unfold m_ws; rw [hr0]
  rcases hq with hq | ⟨host, hq⟩
  · refine aw_after C ha hw hl (va_runI (As := As.map (trV g al)) ⟨C.1, C.2.1, C.2.2.2.1, C.2.2.2.2.1, C.2.2.2.2.2.1⟩ (K al) (cwI (m_np M') C.2.2.2.2.2.1 (gd_ws hM.1) hws rfl rfl (C.2.2.2.2.2.1 _ hM.2.1) (C.2.2.2.2.2.1 _ hq) (C.2.2.2.2.2.1 _ hi) hy hM.2.2 hR) ⟨PU_blind, fun U hU hW => ⟨rfl, PU_of hB hw hU hW⟩⟩ rfl (by rw [List.length_map]; exact hn) hl.1 map_rev (lv_room (cat_sum hcat)) hd hm) hm.1 hok (fun rv h' z => z)
  · refine aw_after C ha hw hl (va_runIN (As := As.map (trV g al)) ⟨C.1, C.2.1, C.2.2.2.1, C.2.2.2.2.1, C.2.2.2.2.2.1⟩ (K al) ⟨va_cnB (m_np M') C.2.2.2.2.2.1 (gd_ws hM.1) hws rfl rfl ((hB.1.2.2.2.2.2.2.2.2 _ hq rfl).warmM hB.2.2.2) (C.2.2.2.2.2.1 _ hM.2.1) hM.2.2 hR, hy, C.2.2.2.2.2.1 _ hi⟩ ⟨PU_blind, fun U hU hW => ⟨rfl, PU_of hB hw hU hW⟩⟩ rfl (by rw [List.length_map]; exact hn) hl.1 map_rev (lv_room (cat_sum hcat)) hd hm) hm.1 hok (fun rv h' z => z)
theorem q_obj : Cond.instanceMethod Lib.objectInit ∈ lw_g ∧ Cond.code Lib.objectInit ⟨#[0xb1]⟩ 1 none ∈ lw_g := by decide +kernel
theorem aw_obj {g : Glob} {M : Mth} {Post : Option Value → AH → Prop} {cl sl pc : Nat} {ls : List (Option Value)} {st : List Value} {h : AH} {idx b : Nat} (hd : decode (m_cc M) pc = .ok (.invokespecial idx, 3)) (hq : Cond.methodLink (m_own M) idx Lib.objectInit ∈ lw_g) (hdep : 1 ≤ m_dep M) (hcat : (st.map fun v => v.category).sum ≤ 8) (K : AW g M Post cl sl (pc + 3) ls st h) : AW g M Post cl sl pc ls (.ref b :: st) h := by
  intro p e s m args below meth c H locs lsA al0 n0 al C ha hw hl
  have hcs := cat_sum (g := g) (al := al) hcat
  refine W.objInit C.1 C.2.1 C.2.2.2.2.1 (C.2.2.2.2.2.1 _ hq) (C.2.2.2.2.2.1 _ q_obj.1) (C.2.2.2.2.2.1 _ q_obj.2) rfl (hl.1.trans C.2.2.2.1.symm) rfl hd hdep (by show 2 * 0 + ((st.map (trV g al)).map fun v => v.category).sum + 12 ≤ 40 * m_dep M; omega) ?_
  exact K p e s m args below meth c H locs lsA al0 n0 al C ha hw hl
theorem q_abs : Cond.static Lib.Math.abs.name ∈ lw_g ∧ Cond.initialized "java/lang/Math" ∈ lw_g ∧ Cond.code Lib.Math.abs.name Lib.Math.abs.code 1 (some .int) ∈ lw_g := by decide +kernel
theorem q_min : Cond.static Lib.Math.min.name ∈ lw_g ∧ Cond.code Lib.Math.min.name Lib.Math.min.code 2 (some .int) ∈ lw_g := by decide +kernel
theorem q_cpy : Cond.native arraycopyName ∈ lw_g ∧ Cond.static arraycopyName ∈ lw_g ∧ Cond.initialized "java/lang/System" ∈ lw_g := by decide +kernel
theorem aw_abs {g : Glob} {M : Mth} {Post : Option Value → AH → Prop} {cl sl pc : Nat} {ls : List (Option Value)} {st : List Value} {h : AH} {idx : Nat} {x : Int32} (hd : decode (m_cc M) pc = .ok (.invokestatic idx, 3)) (hq : Cond.methodLink (m_own M) idx Lib.Math.abs.name ∈ lw_g) (hdep : 1 ≤ m_dep M) (hcat : (st.map fun v => v.category).sum ≤ 8) (hm : cl ≤ m_mc M ∧ sl ≤ m_ms M) (K : AW g M Post cl sl (pc + 3) ls (.int (if 0 ≤ x then x else 0 - x) :: st) h) : AW g M Post cl sl pc ls (.int x :: st) h := by
  intro p e s m args below meth c H locs lsA al0 n0 al C ha hw hl
  have hcs := cat_sum (g := g) (al := al) hcat
  exact va_mabs C.1 C.2.1 (C.2.2.2.1.trans hl.1.symm) C.2.2.2.2.1 (C.2.2.2.2.2.1 _ hq) (C.2.2.2.2.2.1 _ q_abs.1) (C.2.2.2.2.2.1 _ q_abs.2.1) (C.2.2.2.2.2.1 _ q_abs.2.2) hdep (by show _ ≤ 40 * m_dep M; omega) hm.1 hm.2 hd (K p e s m args below meth c H locs lsA al0 n0 al C ha hw hl)
theorem aw_min {g : Glob} {M : Mth} {Post : Option Value → AH → Prop} {cl sl pc : Nat} {ls : List (Option Value)} {st : List Value} {h : AH} {idx : Nat} {x y : Int32} (hd : decode (m_cc M) pc = .ok (.invokestatic idx, 3)) (hq : Cond.methodLink (m_own M) idx Lib.Math.min.name ∈ lw_g) (hdep : 1 ≤ m_dep M) (hcat : (st.map fun v => v.category).sum ≤ 8) (hm : cl ≤ m_mc M ∧ sl ≤ m_ms M) (K : AW g M Post cl sl (pc + 3) ls (.int (if y < x then y else x) :: st) h) : AW g M Post cl sl pc ls (.int y :: .int x :: st) h := by
  intro p e s m args below meth c H locs lsA al0 n0 al C ha hw hl
  have hcs := cat_sum (g := g) (al := al) hcat
  exact va_mmin C.1 C.2.1 (C.2.2.2.1.trans hl.1.symm) C.2.2.2.2.1 (C.2.2.2.2.2.1 _ hq) (C.2.2.2.2.2.1 _ q_min.1) (C.2.2.2.2.2.1 _ q_abs.2.1) (C.2.2.2.2.2.1 _ q_min.2) hdep (by show _ ≤ 40 * m_dep M; omega) hm.1 hm.2 hd (K p e s m args below meth c H locs lsA al0 n0 al C ha hw hl)
theorem aw_cpy {g : Glob} {M : Mth} {Post : Option Value → AH → Prop} {cl sl pc : Nat} {ls : List (Option Value)} {st : List Value} {h : AH} {idx k0 k1 n0 n1 : Nat} {f0 f1 : Nat → Int32} {sp dp n : Int32} (hd : decode (m_cc M) pc = .ok (.invokestatic idx, 3)) (hq : Cond.methodLink (m_own M) idx arraycopyName ∈ lw_g) (hdep : 1 ≤ m_dep M) (hcat : (st.map fun v => v.category).sum ≤ 8) (hk0 : hat h k0 = some (.inl (0, n0, .inl f0))) (hk1 : hat h k1 = some (.inl (0, n1, .inl f1))) (h1 : ¬ sp < 0) (h2 : ¬ dp < 0) (h3 : ¬ n < 0) (h4 : sp.toNatClampNeg + n.toNatClampNeg ≤ n0) (h5 : dp.toNatClampNeg + n.toNatClampNeg ≤ n1)
    (K : AW g M Post cl sl (pc + 3) ls st (h.set k1 (.inl (0, n1, .inl (va_cpy f0 f1 sp.toNatClampNeg dp.toNatClampNeg n.toNatClampNeg))))) : AW g M Post cl sl pc ls (.int n :: .int dp :: .ref k1 :: .int sp :: .ref k0 :: st) h := by
  intro p e s m args below meth c H locs lsA al0 m0 al C ha hw hl
  have hcs := cat_sum (g := g) (al := al) hcat
  obtain ⟨hlt0, hk0⟩ := hat_some hk0
  obtain ⟨hlt1, hk1⟩ := hat_some hk1
  have hg0 : (trW g al h)[k0]? = some (al k0, .inl (g_c g 0, n0, .inl f0)) := trW_get hk0
  have hg1 : (trW g al h)[k1]? = some (al k1, .inl (g_c g 0, n1, .inl f1)) := trW_get hk1
  show W p (g_l g) e (m_room M) s m args below meth c H locs cl sl _ (F0 m pc lsA (.int n :: .int dp :: .ref (trR g al k1) :: .int sp :: .ref (trR g al k0) :: st.map (trV g al)))
  rw [trR_lt hlt0, trR_lt hlt1]
  refine va_copyi C.1 C.2.1 (C.2.2.2.1.trans hl.1.symm) C.2.2.2.2.1 (C.2.2.2.2.2.1 _ hq) (C.2.2.2.2.2.1 _ q_cpy.1) (C.2.2.2.2.2.1 _ q_cpy.2.1) (C.2.2.2.2.2.1 _ q_cpy.2.2) C.2.2.2.2.2.2.2.2.K hw.1 hw.2.1 hw.2.2 k0 k1 0 0 hg0 hg1 rfl rfl rfl h1 h2 h3 h4 h5 (fun _ _ => rfl) hdep (by
    have e9 : nativeFrameWords "java/lang/System" "arraycopy" 5 + 11 ≤ 32 := by decide +kernel
    show _ ≤ 40 * m_dep M
    omega) hd (fun H1 locs1 hP1 hD1 hS1 => ?_)
  have e1 : trW g al (h.set k1 (.inl (0, n1, .inl (va_cpy f0 f1 sp.toNatClampNeg dp.toNatClampNeg n.toNatClampNeg)))) = (trW g al h).set k1 (al k1, .inl (g_c g 0, n1, .inl (va_cpy f0 f1 sp.toNatClampNeg dp.toNatClampNeg n.toNatClampNeg))) := trW_set
  exact K p e s m args below meth c H1 locs1 lsA al0 m0 al C (agr_set ha) ⟨by rw [e1]; exact hP1, by rw [e1]; exact hD1, hS1⟩ hl
end
section
def dfl (a : Nat) : List Value := (List.range (ctN a)).map (fun k => defaultValue (cty a k))
theorem tr_dflt (g : Glob) (al : Nat → Nat) (ty : FieldType) : trV g al (defaultValue ty) = defaultValue ty := by cases ty <;> rfl
theorem tr_dfl (g : Glob) (al : Nat → Nat) (a : Nat) : (dfl a).map (trV g al) = dfl a := by
  unfold dfl
  rw [List.map_map]
  exact List.map_congr_left (fun k _ => tr_dflt g al _)
theorem dfl_V {a j : Nat} (hj : j < ctN a) : defaultValue (cty a j) = vp_V (dfl a) j := by
  unfold vp_V dfl
  simp [List.getD, hj]
def al1 (al : Nat → Nat) (n q : Nat) : Nat → Nat := fun k => if k = n then q else al k
theorem grow1 {g : Glob} {al : Nat → Nat} {h : AH} {q : Nat} {e : va_E} (hok : okH h = true) : trW g (al1 al h.length q) (h ++ [e]) = trW g al h ++ [(q, trE g (al1 al h.length q) e)] := by
  rw [trW_app, okW_tr (al := al) (al' := al1 al h.length q) hok (fun k hk => if_neg (Nat.ne_of_lt hk))]
  simp [al1]
theorem agr_grow {M : Mth} {al0 al al' : Nat → Nat} {n0 n n2 : Nat} (hm : m_mc M ≠ 0) (ha : agr M al0 n0 al n) (hal : ∀ k, k < n → al' k = al k) (hn : n ≤ n2) : agr M al0 n0 al' n2 :=
  ⟨fun z => absurd z hm, fun k hk => by rw [hal k (Nat.lt_of_lt_of_le hk ha.2.2), ha.2.1 k hk], Nat.le_trans ha.2.2 hn⟩
theorem okH_len {h : AH} (hok : okH h = true) : h.length ≤ 900 := by
  simp only [okH, Bool.and_eq_true] at hok
  exact Nat.le_of_ble_eq_true hok.1
theorem Bh.A {g : Glob} {s : State} (hB : Bh g s) : ∀ q, s.heap.size ≤ q → g_A g q := fun _ hq => Nat.le_trans hB.2.1 hq
/-- behind a making of one cell -/
theorem aw_made {g : Glob} {M : Mth} {Post : Option Value → AH → Prop} {cl sl pc : Nat} {ls : List (Option Value)} {st : List Value} {h : AH} {p : Program} {e : Env} {s : State} {m : MethodId} {args : Array Value} {below : List Frame} {meth : Method} {c : Code} {H : Heap} {locs : List Loc} {lsA : Array Slot} {al0 : Nat → Nat} {n0 : Nat} {al : Nat → Nat} {q : Nat} {x : va_E} {y : va_E}
    (C : Cx g M p s m args meth c) (ha : agr M al0 n0 al h.length) (hl : LH g al lsA (m_nL M) ls) (hm : m_mc M ≠ 0) (hok : okH h = true) (hst : okS h.length st = true) (hls : okL h.length ls = true) (hy : ∀ al', trE g al' x = y)
    (hP : va_P (g_D g) vwCl (trW g al h ++ [(q, y)]) H) (hD : va_D (g_A g) (trW g al h ++ [(q, y)])) (hS : va_S (g_A g) s.heap H locs)
    (K : AW g M Post cl sl pc ls (.ref h.length :: st) (h ++ [x])) :
    W p (g_l g) e (m_room M) s m args below meth c H locs cl sl (MQ below (QC g M Post al0 n0) args s (m_mc M) (m_ms M) (g_A g)) (F0 m pc lsA (.ref q :: st.map (trV g al))) := by
  have hn := okH_len hok
  have hal : ∀ k, k < h.length → al1 al h.length q k = al k := fun k hk => if_neg (Nat.ne_of_lt hk)
  have e1 := grow1 (g := g) (al := al) (q := q) (e := x) hok
  rw [hy] at e1
  have hK := K p e s m args below meth c H locs lsA al0 n0 (al1 al h.length q) C (agr_grow hm ha hal (by rw [List.length_append]; omega)) ⟨by rw [e1]; exact hP, by rw [e1]; exact hD, hS⟩ (okL_tr (by omega) hal hls hl)
  have e2 : (Value.ref h.length :: st).map (trV g (al1 al h.length q)) = .ref q :: st.map (trV g al) := by
    rw [List.map_cons, okS_tr (by omega) hal hst]
    show Value.ref (trR g (al1 al h.length q) h.length) :: _ = _
    rw [trR_lt (by omega)]
    simp [al1]
  rw [e2] at hK
  exact hK
theorem aw_new {g : Glob} {M : Mth} {Post : Option Value → AH → Prop} {cl sl pc : Nat} {ls : List (Option Value)} {st : List Value} {h : AH} {idx a : Nat} (hd : decode (m_cc M) pc = .ok (.new idx, 3)) (h7 : a < 7) (hq : Cond.classLink (m_own M) idx (ctR a) ∈ lw_g) (hq2 : Cond.instantiable (ctR a) (ctN a) ∈ lw_g) (hq3 : Cond.initialized (ctR a) ∈ lw_g) (hm : m_mc M ≠ 0) (hc : cl + 1 ≤ m_mc M) (hs : sl + ctN a ≤ m_ms M) (hok : okH h = true) (hst : okS h.length st = true) (hls : okL h.length ls = true) (K : AW g M Post (cl + 1) (sl + ctN a) (pc + 3) ls (.ref h.length :: st) (h ++ [.inr (a, dfl a)])) : AW g M Post cl sl pc ls st h := by
  intro p e s m args below meth c H locs lsA al0 n0 al C ha hw hl
  have hB := C.2.2.2.2.2.2.2.2
  refine va_new C.1 C.2.1 C.2.2.2.2.2.1 (ct_in h7) (cty a) (ct_ty h7) C.2.2.2.2.1 (C.2.2.2.2.2.1 _ hq) (C.2.2.2.2.2.1 _ hq2) (C.2.2.2.2.2.1 _ hq3) hB.K hw.1 hw.2.1 hw.2.2 hB.A (ct_cl h7) (fs := dfl a) (fun j hj => dfl_V hj) hc hs hd (fun q H1 hP1 hD1 hS1 => ?_)
  exact aw_made C ha hl hm hok hst hls (fun al' => by show Sum.inr (a, (dfl a).map (trV g al')) = _; rw [tr_dfl]) hP1 hD1 hS1 K
theorem q_newI : Cond.arrayClass .int ∈ lw_g := by decide +kernel
theorem aw_newI {g : Glob} {M : Mth} {Post : Option Value → AH → Prop} {cl sl pc : Nat} {ls : List (Option Value)} {st : List Value} {h : AH} {n : Int32} (hd : decode (m_cc M) pc = .ok (.newarray .int, 2)) (hn0 : ¬ n < 0) (hb : n.toNatClampNeg ≤ 1000) (hm : m_mc M ≠ 0) (hc : cl + 1 ≤ m_mc M) (hs : sl + n.toNatClampNeg ≤ m_ms M) (hok : okH h = true) (hst : okS h.length st = true) (hls : okL h.length ls = true) (K : AW g M Post (cl + 1) (sl + n.toNatClampNeg) (pc + 2) ls (.ref h.length :: st) (h ++ [.inl (0, n.toNatClampNeg, .inl (fun _ => 0))])) : AW g M Post cl sl pc ls (.int n :: st) h := by
  intro p e s m args below meth c H locs lsA al0 n0 al C ha hw hl
  have hB := C.2.2.2.2.2.2.2.2
  have e9 : componentBytes .int ≤ 8 := by decide
  have hby : n.toNatClampNeg * componentBytes .int ≤ 536870912 := Nat.le_trans (Nat.mul_le_mul hb e9) (by decide)
  refine va_newa (atype := .int) C.1 C.2.1 (C.2.2.2.2.2.1 _ q_newI) rfl hB.K hw.1 hw.2.1 hw.2.2 hB.A (a0 := (n.toNatClampNeg, .inl (fun _ => 0))) (fun _ => rfl) hn0 rfl hby hc hs hd (fun q cA H1 hK1 hP1 hD1 hS1 => ?_)
  have e1 : g_c g 0 = cA := Option.some.inj ((hB.K.2 0 _ rfl).2.symm.trans (hK1.2 4 _ rfl).2)
  exact aw_made C ha hl hm hok hst hls (fun al' => by show Sum.inl (g_c g 0, n.toNatClampNeg, Sum.inl (fun _ => 0)) = _; rw [e1]) hP1 hD1 hS1 K
theorem q_newZ : Cond.arrayClass .boolean ∈ lw_g := by decide +kernel
theorem aw_newZ {g : Glob} {M : Mth} {Post : Option Value → AH → Prop} {cl sl pc : Nat} {ls : List (Option Value)} {st : List Value} {h : AH} {n : Int32} (hd : decode (m_cc M) pc = .ok (.newarray .boolean, 2)) (hn0 : ¬ n < 0) (hb : n.toNatClampNeg ≤ 1000) (hm : m_mc M ≠ 0) (hc : cl + 1 ≤ m_mc M) (hs : sl + n.toNatClampNeg ≤ m_ms M) (hok : okH h = true) (hst : okS h.length st = true) (hls : okL h.length ls = true) (K : AW g M Post (cl + 1) (sl + n.toNatClampNeg) (pc + 2) ls (.ref h.length :: st) (h ++ [.inl (1, n.toNatClampNeg, .inl (fun _ => 0))])) : AW g M Post cl sl pc ls (.int n :: st) h := by
  intro p e s m args below meth c H locs lsA al0 n0 al C ha hw hl
  have hB := C.2.2.2.2.2.2.2.2
  have e9 : componentBytes .boolean ≤ 8 := by decide
  have hby : n.toNatClampNeg * componentBytes .boolean ≤ 536870912 := Nat.le_trans (Nat.mul_le_mul hb e9) (by decide)
  refine va_newa (atype := .boolean) C.1 C.2.1 (C.2.2.2.2.2.1 _ q_newZ) rfl hB.K hw.1 hw.2.1 hw.2.2 hB.A (a0 := (n.toNatClampNeg, .inl (fun _ => 0))) (fun _ => rfl) hn0 rfl hby hc hs hd (fun q cA H1 hK1 hP1 hD1 hS1 => ?_)
  have e1 : g_c g 1 = cA := Option.some.inj ((hB.K.2 1 _ rfl).2.symm.trans (hK1.2 4 _ rfl).2)
  exact aw_made C ha hl hm hok hst hls (fun al' => by show Sum.inl (g_c g 1, n.toNatClampNeg, Sum.inl (fun _ => 0)) = _; rw [e1]) hP1 hD1 hS1 K
theorem aw_newQ {g : Glob} {M : Mth} {Post : Option Value → AH → Prop} {cl sl pc : Nat} {ls : List (Option Value)} {st : List Value} {h : AH} {idx : Nat} {n : Int32} (hd : decode (m_cc M) pc = .ok (.anewarray idx, 3)) (hq : Cond.classLink (m_own M) idx "SceneShots$Scene" ∈ lw_g) (hn0 : ¬ n < 0) (hb : n.toNatClampNeg ≤ 1000) (hm : m_mc M ≠ 0) (hc : cl + 1 ≤ m_mc M) (hs : sl + n.toNatClampNeg ≤ m_ms M) (hok : okH h = true) (hst : okS h.length st = true) (hls : okL h.length ls = true) (K : AW g M Post (cl + 1) (sl + n.toNatClampNeg) (pc + 3) ls (.ref h.length :: st) (h ++ [.inl (2, n.toNatClampNeg, .inr (.inr (.inr (.inr (fun _ => none)))))])) : AW g M Post cl sl pc ls (.int n :: st) h := by
  intro p e s m args below meth c H locs lsA al0 n0 al C ha hw hl
  have hB := C.2.2.2.2.2.2.2.2
  have hov : va_AO "SceneShots$Scene" s := va_AO.moved hB.2.2.2.alike hB.1.2.2.2.2.2.2.2.1.2.2.2.1
  refine va_newq C.1 C.2.1 C.2.2.2.2.1 (C.2.2.2.2.2.1 _ hq) hov hB.K hw.1 hw.2.1 hw.2.2 hB.A hn0 rfl (by omega) hc hs hd (fun q cA H1 hK1 hP1 hD1 hS1 => ?_)
  obtain ⟨-, -, -, -, -, f1⟩ := (hB.K.2 2 _ rfl).2
  obtain ⟨-, -, -, -, -, f2⟩ := (hK1.2 4 _ rfl).2
  have e1 : g_c g 2 = cA := Option.some.inj (f1.symm.trans f2)
  exact aw_made C ha hl hm hok hst hls (fun al' => by show Sum.inl (g_c g 2, n.toNatClampNeg, Sum.inr (Sum.inr (Sum.inr (Sum.inr (fun i => if i < n.toNatClampNeg then none else none))))) = _; rw [e1]; congr; funext i; split <;> rfl) hP1 hD1 hS1 K
def al2 (al : Nat → Nat) (n q : Nat) (r : Nat → Nat) : Nat → Nat := fun k => if k < n then al k else if k = n then q else r (k - (n + 1))
theorem aw_newM {g : Glob} {M : Mth} {Post : Option Value → AH → Prop} {cl sl pc : Nat} {ls : List (Option Value)} {st : List Value} {h : AH} {idx : Nat} {n k : Int32} (hd : decode (m_cc M) pc = .ok (.multianewarray idx 2, 4)) (hq : Cond.classLink (m_own M) idx "[[I" ∈ lw_g) (hn0 : ¬ n < 0) (hk0 : ¬ k < 0) (hb : n.toNatClampNeg ≤ 50) (hb2 : k.toNatClampNeg ≤ 50) (hm : m_mc M ≠ 0) (hc : cl + (1 + n.toNatClampNeg) ≤ m_mc M) (hs : sl + (n.toNatClampNeg + n.toNatClampNeg * k.toNatClampNeg) ≤ m_ms M) (hok : okH h = true) (hst : okS h.length st = true) (hls : okL h.length ls = true)
    (K : AW g M Post (cl + 1 + n.toNatClampNeg) (sl + n.toNatClampNeg + n.toNatClampNeg * k.toNatClampNeg) (pc + 4) ls (.ref h.length :: st) (h ++ (.inl (3, n.toNatClampNeg, .inr (.inr (.inr (.inr (fun i => if i < n.toNatClampNeg then some (h.length + 1 + i) else none))))) :: List.replicate n.toNatClampNeg (.inl (0, k.toNatClampNeg, .inl (fun _ => 0)))))) : AW g M Post cl sl pc ls (.int k :: .int n :: st) h := by
  intro p e s m args below meth c H locs lsA al0 n0 al C ha hw hl
  have hB := C.2.2.2.2.2.2.2.2
  have hn := okH_len hok
  have e9 : componentBytes .int ≤ 8 := by decide
  have hby : k.toNatClampNeg * componentBytes .int ≤ 536870912 := Nat.le_trans (Nat.mul_le_mul hb2 e9) (by decide)
  have e0 : trW g al h ++ va_pl [] (fun _ => .inr (0, [])) = trW g al h := List.append_nil _
  have hov : (Cond.arrayOver (.array .int)).before args s = true := Jvm.Stand.arrayOver_alikeB hB.2.2.2.alike hB.1.2.2.2.2.2.2.2.1.2.2.2.2
  have hcy : s.vm.findClass (FieldType.array .int).toString = some (g_c g 0) := (hB.K.2 0 _ rfl).2
  refine va_mna (X := trW g al h) (L := []) (f := fun _ => .inr (0, [])) (ty := .int) (z := (k.toNatClampNeg, .inl (fun _ => 0))) C.1 C.2.1 C.2.2.2.2.1 (C.2.2.2.2.2.1 _ hq) hov (C.2.2.2.2.2.1 _ q_newI) hcy hB.K (by rw [e0]; exact hw.1) (by rw [e0]; exact hw.2.1) hw.2.2 hB.A hn0 hk0 rfl rfl (by omega) hby (by omega) rfl rfl hc hs (fun c9 => by
    show ({ cls := c9, slots := Array.replicate k.toNatClampNeg (.int 0), vm := .none } : Cell) = arrV c9 k.toNatClampNeg (fun _ => .int 0)
    exact arrV_new _ _ _) hd (fun q r cA H1 hinj _ hK1 hP1 hD1 hS1 => ?_)
  have e1 : g_c g 3 = cA := Option.some.inj ((hB.K.2 3 _ rfl).2.symm.trans (hK1.2 4 _ rfl).2)
  have hal : ∀ j, j < h.length → al2 al h.length q r j = al j := fun j hj => if_pos hj
  have eW : trW g (al2 al h.length q r) (h ++ (.inl (3, n.toNatClampNeg, .inr (.inr (.inr (.inr (fun i => if i < n.toNatClampNeg then some (h.length + 1 + i) else none))))) :: List.replicate n.toNatClampNeg (.inl (0, k.toNatClampNeg, .inl (fun _ => 0))))) = (trW g al h ++ [(q, .inl (cA, n.toNatClampNeg, .inr (.inr (.inr (.inr (fun i => if i < n.toNatClampNeg then some (r i) else none))))))]) ++ va_pl ([] ++ (List.range n.toNatClampNeg).map r) (vr_up (fun _ => .inr (0, [])) ((List.range n.toNatClampNeg).map r) (.inl (g_c g 0, (k.toNatClampNeg, .inl (fun _ => 0))))) := by
    rw [trW_app, okW_tr (al := al) hok hal, List.append_assoc]
    congr 1
    rw [List.mapIdx_cons, List.singleton_append]
    congr 1
    · show (al2 al h.length q r (0 + h.length), trE g (al2 al h.length q r) _) = _
      have e2 : al2 al h.length q r (0 + h.length) = q := by simp [al2]
      rw [e2]
      congr 1
      show Sum.inl (g_c g 3, n.toNatClampNeg, Sum.inr (Sum.inr (Sum.inr (Sum.inr (fun i => if i < n.toNatClampNeg then (if i < n.toNatClampNeg then some (h.length + 1 + i) else none).map (trR g (al2 al h.length q r)) else none))))) = _
      rw [e1]
      refine congrArg (fun z => (Sum.inl (cA, n.toNatClampNeg, Sum.inr (Sum.inr (Sum.inr (Sum.inr z)))) : va_E)) (funext fun i => ?_)
      by_cases hi : i < n.toNatClampNeg
      · rw [if_pos hi, if_pos hi, if_pos hi]
        show some (trR g (al2 al h.length q r) (h.length + 1 + i)) = some (r i)
        rw [trR_lt (by omega)]
        have e3 : al2 al h.length q r (h.length + 1 + i) = r i := by
          unfold al2
          rw [if_neg (by omega), if_neg (by omega)]
          congr 1
          omega
        rw [e3]
      · rw [if_neg hi, if_neg hi]
    · apply List.ext_getElem?
      intro j
      unfold va_pl
      rw [List.getElem?_mapIdx, List.nil_append, List.getElem?_map, List.getElem?_map, List.getElem?_replicate]
      by_cases hj : j < n.toNatClampNeg
      · rw [if_pos hj, List.getElem?_range hj]
        show some (al2 al h.length q r (j + 1 + h.length), Sum.inl (g_c g 0, k.toNatClampNeg, Sum.inl (fun _ => 0))) = some (r j, vr_up _ _ _ (r j))
        rw [vr_up_in (List.mem_map.mpr ⟨j, List.mem_range.mpr hj, rfl⟩)]
        have e3 : al2 al h.length q r (j + 1 + h.length) = r j := by
          unfold al2
          rw [if_neg (by omega), if_neg (by omega)]
          congr 1
          omega
        rw [e3]
      · rw [if_neg hj, List.getElem?_eq_none (by rw [List.length_range]; omega)]
        rfl
  have hK := K p e s m args below meth c H1 locs lsA al0 n0 (al2 al h.length q r) C (agr_grow hm ha hal (by rw [List.length_append]; omega)) ⟨by rw [eW]; exact hP1, by rw [eW]; exact hD1, hS1⟩ (okL_tr (by omega) hal hls hl)
  have e2 : (Value.ref h.length :: st).map (trV g (al2 al h.length q r)) = .ref q :: st.map (trV g al) := by
    rw [List.map_cons, okS_tr (by omega) hal hst]
    show Value.ref (trR g (al2 al h.length q r) h.length) :: _ = _
    rw [trR_lt (by omega)]
    simp [al2]
  rw [e2] at hK
  exact hK
/-! a method's entry -/
theorem lg_sl1 {vs : List Value} (h : vs.all (fun v => v.category == 1) = true) : lg_sl vs = vs.map Slot.val := by
  induction vs with
  | nil => rfl
  | cons v vs ih =>
    simp only [List.all_cons, Bool.and_eq_true, beq_iff_eq] at h
    show (if v.category = 2 then [Slot.val v, Slot.second] else [Slot.val v]) ++ lg_sl vs = _
    rw [if_neg (by omega), ih h.2]
    rfl
def ls0 (n : Nat) (args : List Value) : List (Option Value) := args.map some ++ List.replicate (n - args.length) none
theorem ac_in {g : Glob} {M : Mth} {args : List Value} {h : AH} {Post : Option Value → AH → Prop} (hy : plainName (m_y M).cls = true) (ho : (m_y M).cls = m_own M) (hc : args.all (fun v => v.category == 1) = true) (hn : args.length ≤ m_nL M) (K : AW g M Post 0 0 0 (ls0 (m_nL M) args) [] h) : AC g M args h Post := by
  intro al
  refine Met.ofW (cc := m_cc M) (maxL := m_nL M) (ret := m_ret M) hy rfl ?_
  intro p e s m args' below meth c s1 B hml hv
  obtain ⟨rfl, hB, hP, hD⟩ := hv
  have hts := atoms_spec (ws := m_ws M) B.pre
  have C : Cx g M p s m (args.map (trV g al)).toArray meth c := ⟨B.exec, B.bytes, B.returns, hml, by rw [← ho]; exact findClass_of_methodNamed B.named, fun w hw => hts w (List.mem_cons_of_mem _ hw), B.notSynchronized, (name_of_methodNamed B.named B.method).1, hB⟩
  have hc2 : (args.map (trV g al)).all (fun v => v.category == 1) = true := by
    rw [List.all_map]
    rw [show ((fun v : Value => v.category == 1) ∘ trV g al) = (fun v => v.category == 1) from funext (fun v => by show ((trV g al v).category == 1) = _; rw [trV_cat])]
    exact hc
  have hl0 := lv_entry (args.map (trV g al)) (n := m_nL M) (by rw [lg_sl1 hc2, List.length_map, List.length_map]; exact hn)
  rw [lg_entry_eq]
  refine K p e s m _ below meth c s.heap [] _ al h.length al C ⟨fun _ => rfl, fun _ _ => rfl, Nat.le_refl _⟩ ⟨hP, hD, va_S.rf⟩ ⟨hl0.1, hl0.2.1, fun k v hk => ?_⟩
  rw [lg_sl1 hc2]
  unfold ls0 at hk
  simp only [List.getElem?_toArray]
  have hk1 : k < args.length := by
    rcases Nat.lt_or_ge k args.length with z | z
    · exact z
    · rw [List.getElem?_append_right (by rw [List.length_map]; exact z)] at hk
      have := List.mem_of_getElem? hk
      rw [List.mem_replicate] at this
      cases this.2
  rw [List.getElem?_append_left (by rw [List.length_map]; exact hk1), List.getElem?_map] at hk
  rw [List.getElem?_append_left (by rw [List.length_map, List.length_map]; exact hk1), List.getElem?_map, List.getElem?_map]
  cases hv : args[k]? with
  | none => rw [hv] at hk; cases hk
  | some w =>
    rw [hv] at hk
    cases hk
    rfl
theorem ac_mono {g : Glob} {M : Mth} {args : List Value} {h : AH} {P Q : Option Value → AH → Prop} (hP : AC g M args h P) (hPQ : ∀ r h', P r h' → Q r h') : AC g M args h Q := by
  intro al
  have h0 := hP al
  intro p e ha hc hk s m a below hf happ hpc hK
  obtain ⟨k, o, h1, h2, h3, ⟨rv, h', al', z1, z2, z3⟩, h5⟩ := h0 p e ha hc hk s m a below hf happ hpc hK
  exact ⟨k, o, h1, h2, h3, ⟨rv, h', al', z1, hPQ _ _ z2, z3⟩, h5⟩
/-- a contract that says one answer and one heap -/
def ACe (g : Glob) (M : Mth) (args : List Value) (h : AH) (rv : Option Value) (h2 : AH) : Prop := AC g M args h (fun r h' => r = rv ∧ h' = h2)
theorem ac_to {g : Glob} {M : Mth} {args : List Value} {h h2 : AH} {rv : Option Value} {Q : Option Value → AH → Prop} (hP : ACe g M args h rv h2) (hQ : Q rv h2) : AC g M args h Q := ac_mono hP (fun r h' z => by rw [z.1, z.2]; exact hQ)
end
section
/-! ===== wp: the machine run over a table of instructions, as a proposition; it stops at the heads of loops ===== -/
def s1i (st : List Value) (F : Int32 → List Value → Prop) : Prop := match st with
  | .int x :: r => F x r
  | _ => False
def s2i (st : List Value) (F : Int32 → Int32 → List Value → Prop) : Prop := match st with
  | .int y :: .int x :: r => F x y r
  | _ => False
def s1f (st : List Value) (F : UInt32 → List Value → Prop) : Prop := match st with
  | .float x :: r => F x r
  | _ => False
def s2f (st : List Value) (F : UInt32 → UInt32 → List Value → Prop) : Prop := match st with
  | .float y :: .float x :: r => F x y r
  | _ => False
def s1l (st : List Value) (F : Int64 → List Value → Prop) : Prop := match st with
  | .long x :: r => F x r
  | _ => False
def s2l (st : List Value) (F : Int64 → Int64 → List Value → Prop) : Prop := match st with
  | .long y :: .long x :: r => F x y r
  | _ => False
def s1r (st : List Value) (F : Nat → List Value → Prop) : Prop := match st with
  | .ref x :: r => F x r
  | _ => False
def s1v (st : List Value) (F : Value → List Value → Prop) : Prop := match st with
  | x :: r => (match Nat.beq x.category 1 with
    | true => F x r
    | false => False)
  | _ => False
def s2v (st : List Value) (F : Value → Value → List Value → Prop) : Prop := match st with
  | x :: y :: r => (match Nat.beq x.category 1 && Nat.beq y.category 1 with
    | true => F x y r
    | false => False)
  | _ => False
def sir (st : List Value) (F : Int32 → Nat → List Value → Prop) : Prop := match st with
  | .int i :: .ref k :: r => F i k r
  | _ => False
def siir (st : List Value) (F : Int32 → Int32 → Nat → List Value → Prop) : Prop := match st with
  | .int x :: .int i :: .ref k :: r => F x i k r
  | _ => False
def srir (st : List Value) (F : Nat → Int32 → Nat → List Value → Prop) : Prop := match st with
  | .ref q :: .int i :: .ref k :: r => F q i k r
  | _ => False
def svr (st : List Value) (F : Value → Nat → List Value → Prop) : Prop := match st with
  | v :: .ref k :: r => F v k r
  | _ => False
def scp (st : List Value) (F : Int32 → Int32 → Nat → Int32 → Nat → List Value → Prop) : Prop := match st with
  | .int n :: .int dp :: .ref k1 :: .int sp :: .ref k0 :: r => F n dp k1 sp k0 r
  | _ => False
def lI (o : Option Value) (F : Int32 → Prop) : Prop := match o with
  | some (.int x) => F x
  | _ => False
def lF (o : Option Value) (F : UInt32 → Prop) : Prop := match o with
  | some (.float x) => F x
  | _ => False
def lL (o : Option Value) (F : Int64 → Prop) : Prop := match o with
  | some (.long x) => F x
  | _ => False
def lR (o : Option Value) (F : Nat → Prop) : Prop := match o with
  | some (.ref x) => F x
  | _ => False
def r1i (st : List Value) (F : Int32 → Prop) : Prop := match st with
  | [.int x] => F x
  | _ => False
def r1l (st : List Value) (F : Int64 → Prop) : Prop := match st with
  | [.long x] => F x
  | _ => False
def r1f (st : List Value) (F : UInt32 → Prop) : Prop := match st with
  | [.float x] => F x
  | _ => False
def r0 (st : List Value) (P : Prop) : Prop := match st with
  | [] => P
  | _ => False
def popR (n : Nat) (st : List Value) (F : List Value → Nat → List Value → Prop) : Prop := match popN n [] st with
  | some (As, .ref k :: r) => F As k r
  | _ => False
def popT (n : Nat) (st : List Value) (F : List Value → List Value → Prop) : Prop := match popN n [] st with
  | some (As, r) => F As r
  | _ => False
def bEl (b : Bool) (P Q : Prop) : Prop := match b with
  | true => P
  | false => Q
def bIf (b : Bool) (P : Prop) : Prop := match b with
  | true => P
  | false => False
def oV (o : Option Value) (F : Value → Prop) : Prop := match o with
  | some v => F v
  | none => False
/-- an object of class a at k -/
def oO (h : AH) (k a : Nat) (F : List Value → Prop) : Prop := match hat h k with
  | some (.inr (ci, fs)) => (match Nat.beq ci a with
    | true => F fs
    | false => False)
  | _ => False
/-- what a field takes -/
def pok (ty : FieldType) (v : Value) (P : Prop) : Prop := match ty, v with
  | .int, .int _ => P
  | .boolean, .int x => (x = 0 ∨ x = 1) ∧ P
  | .array _, .ref _ => P
  | .object _, .ref _ => P
  | _, _ => False
def swp (F : Nat → Prop) (pc : Nat) (x : Int) : Int → List Int → Prop
  | _, [] => True
  | lo, o :: os => (x = lo → F ((pc : Int) + o).toNat) ∧ swp F pc x (lo + 1) os
theorem s1i_of {st : List Value} {F : Int32 → List Value → Prop} (h : s1i st F) : ∃ x r, st = .int x :: r ∧ F x r := by
  unfold s1i at h; split at h
  · exact ⟨_, _, rfl, h⟩
  · exact h.elim
theorem s2i_of {st : List Value} {F : Int32 → Int32 → List Value → Prop} (h : s2i st F) : ∃ x y r, st = .int y :: .int x :: r ∧ F x y r := by
  unfold s2i at h; split at h
  · exact ⟨_, _, _, rfl, h⟩
  · exact h.elim
theorem s1f_of {st : List Value} {F : UInt32 → List Value → Prop} (h : s1f st F) : ∃ x r, st = .float x :: r ∧ F x r := by
  unfold s1f at h; split at h
  · exact ⟨_, _, rfl, h⟩
  · exact h.elim
theorem s2f_of {st : List Value} {F : UInt32 → UInt32 → List Value → Prop} (h : s2f st F) : ∃ x y r, st = .float y :: .float x :: r ∧ F x y r := by
  unfold s2f at h; split at h
  · exact ⟨_, _, _, rfl, h⟩
  · exact h.elim
theorem s1l_of {st : List Value} {F : Int64 → List Value → Prop} (h : s1l st F) : ∃ x r, st = .long x :: r ∧ F x r := by
  unfold s1l at h; split at h
  · exact ⟨_, _, rfl, h⟩
  · exact h.elim
theorem s2l_of {st : List Value} {F : Int64 → Int64 → List Value → Prop} (h : s2l st F) : ∃ x y r, st = .long y :: .long x :: r ∧ F x y r := by
  unfold s2l at h; split at h
  · exact ⟨_, _, _, rfl, h⟩
  · exact h.elim
theorem s1r_of {st : List Value} {F : Nat → List Value → Prop} (h : s1r st F) : ∃ x r, st = .ref x :: r ∧ F x r := by
  unfold s1r at h; split at h
  · exact ⟨_, _, rfl, h⟩
  · exact h.elim
theorem s1v_of {st : List Value} {F : Value → List Value → Prop} (h : s1v st F) : ∃ x r, st = x :: r ∧ x.category = 1 ∧ F x r := by
  unfold s1v at h; split at h
  · split at h
    · rename_i x r _ hc
      exact ⟨x, r, rfl, Nat.eq_of_beq_eq_true hc, h⟩
    · exact h.elim
  · exact h.elim
theorem s2v_of {st : List Value} {F : Value → Value → List Value → Prop} (h : s2v st F) : ∃ x y r, st = x :: y :: r ∧ x.category = 1 ∧ y.category = 1 ∧ F x y r := by
  unfold s2v at h; split at h
  · split at h
    · rename_i x y r _ hc
      rw [Bool.and_eq_true] at hc
      exact ⟨x, y, r, rfl, Nat.eq_of_beq_eq_true hc.1, Nat.eq_of_beq_eq_true hc.2, h⟩
    · exact h.elim
  · exact h.elim
theorem sir_of {st : List Value} {F : Int32 → Nat → List Value → Prop} (h : sir st F) : ∃ i k r, st = .int i :: .ref k :: r ∧ F i k r := by
  unfold sir at h; split at h
  · exact ⟨_, _, _, rfl, h⟩
  · exact h.elim
theorem siir_of {st : List Value} {F : Int32 → Int32 → Nat → List Value → Prop} (h : siir st F) : ∃ x i k r, st = .int x :: .int i :: .ref k :: r ∧ F x i k r := by
  unfold siir at h; split at h
  · exact ⟨_, _, _, _, rfl, h⟩
  · exact h.elim
theorem srir_of {st : List Value} {F : Nat → Int32 → Nat → List Value → Prop} (h : srir st F) : ∃ q i k r, st = .ref q :: .int i :: .ref k :: r ∧ F q i k r := by
  unfold srir at h; split at h
  · exact ⟨_, _, _, _, rfl, h⟩
  · exact h.elim
theorem svr_of {st : List Value} {F : Value → Nat → List Value → Prop} (h : svr st F) : ∃ v k r, st = v :: .ref k :: r ∧ F v k r := by
  unfold svr at h; split at h
  · exact ⟨_, _, _, rfl, h⟩
  · exact h.elim
theorem scp_of {st : List Value} {F : Int32 → Int32 → Nat → Int32 → Nat → List Value → Prop} (h : scp st F) : ∃ n dp k1 sp k0 r, st = .int n :: .int dp :: .ref k1 :: .int sp :: .ref k0 :: r ∧ F n dp k1 sp k0 r := by
  unfold scp at h; split at h
  · exact ⟨_, _, _, _, _, _, rfl, h⟩
  · exact h.elim
theorem lI_of {o : Option Value} {F : Int32 → Prop} (h : lI o F) : ∃ x, o = some (.int x) ∧ F x := by
  unfold lI at h; split at h
  · exact ⟨_, rfl, h⟩
  · exact h.elim
theorem lF_of {o : Option Value} {F : UInt32 → Prop} (h : lF o F) : ∃ x, o = some (.float x) ∧ F x := by
  unfold lF at h; split at h
  · exact ⟨_, rfl, h⟩
  · exact h.elim
theorem lL_of {o : Option Value} {F : Int64 → Prop} (h : lL o F) : ∃ x, o = some (.long x) ∧ F x := by
  unfold lL at h; split at h
  · exact ⟨_, rfl, h⟩
  · exact h.elim
theorem lR_of {o : Option Value} {F : Nat → Prop} (h : lR o F) : ∃ x, o = some (.ref x) ∧ F x := by
  unfold lR at h; split at h
  · exact ⟨_, rfl, h⟩
  · exact h.elim
theorem r1i_of {st : List Value} {F : Int32 → Prop} (h : r1i st F) : ∃ x, st = [.int x] ∧ F x := by
  unfold r1i at h; split at h
  · exact ⟨_, rfl, h⟩
  · exact h.elim
theorem r1l_of {st : List Value} {F : Int64 → Prop} (h : r1l st F) : ∃ x, st = [.long x] ∧ F x := by
  unfold r1l at h; split at h
  · exact ⟨_, rfl, h⟩
  · exact h.elim
theorem r1f_of {st : List Value} {F : UInt32 → Prop} (h : r1f st F) : ∃ x, st = [.float x] ∧ F x := by
  unfold r1f at h; split at h
  · exact ⟨_, rfl, h⟩
  · exact h.elim
theorem r0_of {st : List Value} {P : Prop} (h : r0 st P) : st = [] ∧ P := by
  unfold r0 at h; split at h
  · exact ⟨rfl, h⟩
  · exact h.elim
theorem popR_of {n : Nat} {st : List Value} {F : List Value → Nat → List Value → Prop} (h : popR n st F) : ∃ As k r, popN n [] st = some (As, .ref k :: r) ∧ F As k r := by
  unfold popR at h; split at h
  · rename_i he
    exact ⟨_, _, _, he, h⟩
  · exact h.elim
theorem popT_of {n : Nat} {st : List Value} {F : List Value → List Value → Prop} (h : popT n st F) : ∃ As r, popN n [] st = some (As, r) ∧ F As r := by
  unfold popT at h; split at h
  · rename_i he
    exact ⟨_, _, he, h⟩
  · exact h.elim
theorem bEl_of {b : Bool} {P Q : Prop} (h : bEl b P Q) : (b = true ∧ P) ∨ (b = false ∧ Q) := by
  cases b with
  | true => exact Or.inl ⟨rfl, h⟩
  | false => exact Or.inr ⟨rfl, h⟩
theorem bIf_of {b : Bool} {P : Prop} (h : bIf b P) : b = true ∧ P := by
  cases b with
  | true => exact ⟨rfl, h⟩
  | false => exact h.elim
theorem oV_of {o : Option Value} {F : Value → Prop} (h : oV o F) : ∃ v, o = some v ∧ F v := by
  cases o with
  | none => exact h.elim
  | some v => exact ⟨v, rfl, h⟩
theorem oO_of {h : AH} {k a : Nat} {F : List Value → Prop} (hh : oO h k a F) : ∃ fs, hat h k = some (.inr (a, fs)) ∧ F fs := by
  unfold oO at hh; split at hh
  · split at hh
    · rename_i ci fs he _ hc
      rw [Nat.eq_of_beq_eq_true hc] at he
      exact ⟨fs, he, hh⟩
    · exact hh.elim
  · exact hh.elim
theorem pok_of {ty : FieldType} {v : Value} {P : Prop} (h : pok ty v P) (g : Glob) : (∀ al, narrow ty (trV g al v) = trV g al v) ∧ (∀ al, fits ty (trV g al v) = true) ∧ P := by
  unfold pok at h; split at h
  · exact ⟨fun _ => rfl, fun _ => rfl, h⟩
  · obtain ⟨h1 | h1, h2⟩ := h
    · subst h1; exact ⟨fun _ => rfl, fun _ => rfl, h2⟩
    · subst h1; exact ⟨fun _ => rfl, fun _ => rfl, h2⟩
  · exact ⟨fun _ => rfl, fun _ => rfl, h⟩
  · exact ⟨fun _ => rfl, fun _ => rfl, h⟩
  · exact h.elim
theorem swp_get {F : Nat → Prop} {pc : Nat} {x : Int} : ∀ (l : List Int) (lo : Int), swp F pc x lo l → lo ≤ x → x < lo + l.length → ∃ off, l[(x - lo).toNat]? = some off ∧ F ((pc : Int) + off).toNat := by
  intro l
  induction l with
  | nil => intro lo _ h1 h2; simp at h2; omega
  | cons o os ih =>
    intro lo h h1 h2
    by_cases hx : x = lo
    · subst hx
      refine ⟨o, ?_, h.1 rfl⟩
      rw [show (x - x).toNat = 0 by omega]
      rfl
    · obtain ⟨off, z1, z2⟩ := ih (lo + 1) h.2 (by omega) (by rw [List.length_cons] at h2; omega)
      refine ⟨off, ?_, z2⟩
      rw [show (x - lo).toNat = (x - (lo + 1)).toNat + 1 by omega]
      exact z1
abbrev FT : Type := List En → List (Option Value) → List Value → AH → Nat → Nat → Prop
def nx (g : Glob) (M : Mth) (Post : Option Value → AH → Prop) (F : FT) (r : List En) (ls : List (Option Value)) (st : List Value) (h : AH) (cl sl : Nat) : Prop := match r with
  | [] => False
  | e2 :: _ => match (m_stops M).elem e2.1 with
    | true => AW g M Post cl sl e2.1 ls st h
    | false => F r ls st h cl sl
def jp (g : Glob) (M : Mth) (Post : Option Value → AH → Prop) (F : FT) (t : Nat) (ls : List (Option Value)) (st : List Value) (h : AH) (cl sl : Nat) : Prop := match (m_stops M).elem t with
  | true => AW g M Post cl sl t ls st h
  | false => F (dropTo t (m_code M)) ls st h cl sl
def ico (c : Jvm.ClassFile.Cond) (x y : Int32) (P Q : Prop) : Prop := match c with
  | .eq => (x = y → P) ∧ (¬ x = y → Q)
  | .ne => (¬ x = y → P) ∧ (x = y → Q)
  | .lt => (x < y → P) ∧ (¬ x < y → Q)
  | .ge => (y ≤ x → P) ∧ (¬ y ≤ x → Q)
  | .gt => (y < x → P) ∧ (¬ y < x → Q)
  | .le => (x ≤ y → P) ∧ (¬ x ≤ y → Q)
def ret9 (M : Mth) (cl sl : Nat) (P : Prop) : Prop := bIf (Nat.ble cl (m_mc M) && Nat.ble sl (m_ms M)) P
def zok (ty : Option FieldType) (v : Int32) (P : Prop) : Prop := match ty with
  | some .int => P
  | some t => narrow t (.int v) = .int v ∧ P
  | none => False
/-- room and places for a call -/
def cok (M M' : Mth) (cl sl : Nat) (ls : List (Option Value)) (st : List Value) (h : AH) (P : Prop) : Prop :=
  bIf (Nat.ble (cl + m_mc M') (m_mc M) && Nat.ble (sl + m_ms M') (m_ms M) && Nat.ble ((st.map fun v => v.category).sum) 8) (match Nat.beq (m_mc M') 0 with
    | true => P
    | false => (h.length ≤ 1000 ∧ okS h.length st = true ∧ okL h.length ls = true) ∧ P)
def mok (M : Mth) (cl sl : Nat) (ls : List (Option Value)) (st : List Value) (h : AH) (dc ds : Nat) (P : Prop) : Prop :=
  bIf (!Nat.beq (m_mc M) 0 && Nat.ble (cl + dc) (m_mc M) && Nat.ble (sl + ds) (m_ms M)) ((okH h = true ∧ okS h.length st = true ∧ okL h.length ls = true) ∧ P)
def rcv (M' : Mth) (h : AH) (b : Nat) (P : Prop) : Prop := match Nat.blt b 1000 with
  | true => (match h[b]? with
    | some (.inr (a, _)) => bIf (Nat.blt a 7 && decide (ctR a = (m_y M').cls)) P
    | _ => False)
  | false => bIf ((Nat.beq b 1000 || Nat.beq b 1001 || Nat.beq b 1002) && decide ((m_y M').cls = "java/lang/String")) P
def wpS (g : Glob) (mt : Nat → Mth) (M : Mth) (Post : Option Value → AH → Prop) (F : FT) : FT := fun cd ls st h cl sl => match cd with
  | [] => False
  | (pc, _, i, a, b, _, v) :: r => match i with
      | .iconst _ => nx g M Post F r ls (.int v :: st) h cl sl
      | .bipush _ => nx g M Post F r ls (.int v :: st) h cl sl
      | .sipush _ => nx g M Post F r ls (.int v :: st) h cl sl
      | .ldc _ => match b with
        | 0 => nx g M Post F r ls (.int v :: st) h cl sl
        | 1 => nx g M Post F r ls (.float (UInt32.ofNat a) :: st) h cl sl
        | _ => nx g M Post F r ls (.ref a :: st) h cl sl
      | .ldc_w _ => nx g M Post F r ls (.int v :: st) h cl sl
      | .ldc2_w _ => nx g M Post F r ls (.long (Int64.ofNat a) :: st) h cl sl
      | .lconst _ => nx g M Post F r ls (.long (Int64.ofNat a) :: st) h cl sl
      | .fconst _ => nx g M Post F r ls (.float FP.fconst0 :: st) h cl sl
      | .iload_n j => lI (lget ls j) (fun x => nx g M Post F r ls (.int x :: st) h cl sl)
      | .iload j => lI (lget ls j) (fun x => nx g M Post F r ls (.int x :: st) h cl sl)
      | .fload_n j => lF (lget ls j) (fun x => nx g M Post F r ls (.float x :: st) h cl sl)
      | .fload j => lF (lget ls j) (fun x => nx g M Post F r ls (.float x :: st) h cl sl)
      | .lload_n j => lL (lget ls j) (fun x => nx g M Post F r ls (.long x :: st) h cl sl)
      | .lload j => lL (lget ls j) (fun x => nx g M Post F r ls (.long x :: st) h cl sl)
      | .aload_n j => lR (lget ls j) (fun x => nx g M Post F r ls (.ref x :: st) h cl sl)
      | .aload j => lR (lget ls j) (fun x => nx g M Post F r ls (.ref x :: st) h cl sl)
      | .istore_n j => s1i st (fun x st => bIf (Nat.blt j (m_nL M) && !c2at ls j) (nx g M Post F r (ls.set j (some (.int x))) (st) h cl sl))
      | .istore j => s1i st (fun x st => bIf (Nat.blt j (m_nL M) && !c2at ls j) (nx g M Post F r (ls.set j (some (.int x))) (st) h cl sl))
      | .fstore_n j => s1f st (fun x st => bIf (Nat.blt j (m_nL M) && !c2at ls j) (nx g M Post F r (ls.set j (some (.float x))) (st) h cl sl))
      | .fstore j => s1f st (fun x st => bIf (Nat.blt j (m_nL M) && !c2at ls j) (nx g M Post F r (ls.set j (some (.float x))) (st) h cl sl))
      | .astore_n j => s1r st (fun x st => bIf (Nat.blt j (m_nL M) && !c2at ls j) (nx g M Post F r (ls.set j (some (.ref x))) (st) h cl sl))
      | .astore j => s1r st (fun x st => bIf (Nat.blt j (m_nL M) && !c2at ls j) (nx g M Post F r (ls.set j (some (.ref x))) (st) h cl sl))
      | .lstore_n j => s1l st (fun x st => bIf (Nat.blt (j + 1) (m_nL M) && !c2at ls j) (nx g M Post F r ((ls.set j (some (.long x))).set (j + 1) none) (st) h cl sl))
      | .lstore j => s1l st (fun x st => bIf (Nat.blt (j + 1) (m_nL M) && !c2at ls j) (nx g M Post F r ((ls.set j (some (.long x))).set (j + 1) none) (st) h cl sl))
      | .iinc j _ => lI (lget ls j) (fun x => bIf (Nat.blt j (m_nL M) && !c2at ls j) (nx g M Post F r (ls.set j (some (.int (x + v)))) (st) h cl sl))
      | .iadd => s2i st (fun x y st => nx g M Post F r ls (.int (x + y) :: st) h cl sl)
      | .isub => s2i st (fun x y st => nx g M Post F r ls (.int (x - y) :: st) h cl sl)
      | .imul => s2i st (fun x y st => nx g M Post F r ls (.int (x * y) :: st) h cl sl)
      | .iand => s2i st (fun x y st => nx g M Post F r ls (.int (x &&& y) :: st) h cl sl)
      | .ior => s2i st (fun x y st => nx g M Post F r ls (.int (x ||| y) :: st) h cl sl)
      | .ixor => s2i st (fun x y st => nx g M Post F r ls (.int (x ^^^ y) :: st) h cl sl)
      | .ishl => s2i st (fun x y st => nx g M Post F r ls (.int (x <<< (y &&& 31)) :: st) h cl sl)
      | .ishr => s2i st (fun x y st => nx g M Post F r ls (.int (x >>> (y &&& 31)) :: st) h cl sl)
      | .iushr => s2i st (fun x y st => nx g M Post F r ls (.int ((x.toUInt32 >>> (y.toUInt32 &&& Int32.toUInt32 31)).toInt32) :: st) h cl sl)
      | .ineg => s1i st (fun x st => nx g M Post F r ls (.int (-x) :: st) h cl sl)
      | .i2l => s1i st (fun x st => nx g M Post F r ls (.long x.toInt64 :: st) h cl sl)
      | .i2c => s1i st (fun x st => nx g M Post F r ls (.int (x.toUInt32 % 65536).toInt32 :: st) h cl sl)
      | .i2f => s1i st (fun x st => nx g M Post F r ls (.float (FP.i2f x) :: st) h cl sl)
      | .f2i => s1f st (fun x st => nx g M Post F r ls (.int (FP.f2i x) :: st) h cl sl)
      | .ladd => s2l st (fun x y st => nx g M Post F r ls (.long (x + y) :: st) h cl sl)
      | .lsub => s2l st (fun x y st => nx g M Post F r ls (.long (x - y) :: st) h cl sl)
      | .lmul => s2l st (fun x y st => nx g M Post F r ls (.long (x * y) :: st) h cl sl)
      | .lcmp => s2l st (fun x y st => nx g M Post F r ls (.int (lg_cmp x y) :: st) h cl sl)
      | .fadd => s2f st (fun x y st => vf_n32 (FP.fadd x y) ∧ nx g M Post F r ls (.float (FP.fadd x y) :: st) h cl sl)
      | .fmul => s2f st (fun x y st => vf_n32 (FP.fmul x y) ∧ nx g M Post F r ls (.float (FP.fmul x y) :: st) h cl sl)
      | .fdiv => s2f st (fun x y st => vf_n32 (FP.fdiv x y) ∧ nx g M Post F r ls (.float (FP.fdiv x y) :: st) h cl sl)
      | .fcmp op => s2f st (fun x y st => nx g M Post F r ls (.int (Op.cmpValue (FP.fcmp x y) op) :: st) h cl sl)
      | .dup => s1v st (fun x st => nx g M Post F r ls (x :: x :: st) h cl sl)
      | .pop => s1v st (fun _ st => nx g M Post F r ls (st) h cl sl)
      | .dup2 => s2v st (fun x y st => nx g M Post F r ls (x :: y :: x :: y :: st) h cl sl)
      | .if_icmp cnd _ => s2i st (fun x y st => ico cnd x y (jp g M Post F a ls (st) h cl sl) (nx g M Post F r ls (st) h cl sl))
      | .ifCond cnd _ => s1i st (fun x st => ico cnd x 0 (jp g M Post F a ls (st) h cl sl) (nx g M Post F r ls (st) h cl sl))
      | .goto _ => jp g M Post F a ls (st) h cl sl
      | .tableswitch _ lo hi offs => s1i st (fun x st => (x.toInt < lo ∨ hi < x.toInt → jp g M Post F a ls (st) h cl sl) ∧ swp (fun t => jp g M Post F t ls (st) h cl sl) pc x.toInt lo offs.toList)
      | .getfield _ => s1r st (fun k st => bEl (Nat.blt a 7) (oO h k a (fun fs => oV (fs[b]?) (fun w => nx g M Post F r ls (w :: st) h cl sl))) (oV (roF k b) (fun w => nx g M Post F r ls (w :: st) h cl sl)))
      | .putfield _ => svr st (fun w k st => oO h k a (fun fs => bIf (Nat.blt b fs.length) (pok (cty a b) w (nx g M Post F r ls (st) (h.set k (.inr (a, fs.set b w))) cl sl))))
      | .iaload => sir st (fun i k st => bEl (Nat.blt k 1000) (∃ n f, hat h k = some (.inl (0, n, .inl f)) ∧ vp_in i n ∧ nx g M Post F r ls (.int (f i.toNatClampNeg) :: st) h cl sl) (∃ n f, roI g k = some (n, f) ∧ vp_in i n ∧ nx g M Post F r ls (.int (f i.toNatClampNeg) :: st) h cl sl))
      | .baload => sir st (fun i k st => bEl (Nat.blt k 1000) (∃ n f, hat h k = some (.inl (1, n, .inl f)) ∧ vp_in i n ∧ nx g M Post F r ls (.int (f i.toNatClampNeg) :: st) h cl sl) (∃ n f, roB k = some (n, f) ∧ vp_in i n ∧ nx g M Post F r ls (.int (f i.toNatClampNeg) :: st) h cl sl))
      | .iastore => siir st (fun x i k st => ∃ n f, hat h k = some (.inl (0, n, .inl f)) ∧ vp_in i n ∧ nx g M Post F r ls (st) (h.set k (.inl (0, n, .inl (upd f i.toNatClampNeg x)))) cl sl)
      | .bastore => siir st (fun x i k st => ∃ n f, hat h k = some (.inl (1, n, .inl f)) ∧ vp_in i n ∧ nx g M Post F r ls (st) (h.set k (.inl (1, n, .inl (upd f i.toNatClampNeg (vp_nar .boolean x))))) cl sl)
      | .aaload => sir st (fun i k st => ∃ t n f q, (t = 2 ∨ t = 3) ∧ hat h k = some (.inl (t, n, .inr (.inr (.inr (.inr f))))) ∧ vp_in i n ∧ f i.toNatClampNeg = some q ∧ nx g M Post F r ls (.ref q :: st) h cl sl)
      | .aastore => srir st (fun q i k st => ∃ n f fs, hat h k = some (.inl (2, n, .inr (.inr (.inr (.inr f))))) ∧ hat h q = some (.inr (3, fs)) ∧ vp_in i n ∧ nx g M Post F r ls (st) (h.set k (.inl (2, n, .inr (.inr (.inr (.inr (va_up f i.toNatClampNeg (some q)))))))) cl sl)
      | .arraylength => s1r st (fun k st => bIf (Nat.ble 1000 k) (match roI g k with
        | some (n, _) => nx g M Post F r ls (.int (Int32.ofNat n) :: st) h cl sl
        | none => match roB k with
          | some (n, _) => nx g M Post F r ls (.int (Int32.ofNat n) :: st) h cl sl
          | none => False))
      | .getstatic _ => match a with
        | 0 => nx g M Post F r ls (.ref 1003 :: st) h cl sl
        | 1 => nx g M Post F r ls (.ref 1004 :: st) h cl sl
        | 2 => nx g M Post F r ls (.int 1 :: st) h cl sl
        | 3 => nx g M Post F r ls (.null :: st) h cl sl ∧ nx g M Post F r ls (.ref 1020 :: st) h cl sl
        | _ => False
      | .invokevirtual _ => popR (m_np (mt a)) st (fun As k st => rcv (mt a) h k (cok M (mt a) cl sl ls st h (AC g (mt a) (.ref k :: As) h (fun rv h' => nx g M Post F r ls (rv.toList ++ st) h' (cl + m_mc (mt a)) (sl + m_ms (mt a))))))
      | .invokespecial _ => match b with
        | 2 => s1r st (fun _ st => bIf (Nat.ble ((st.map fun v => v.category).sum) 8) (nx g M Post F r ls (st) h cl sl))
        | _ => popR (m_np (mt a)) st (fun As k st => cok M (mt a) cl sl ls st h (AC g (mt a) (.ref k :: As) h (fun rv h' => nx g M Post F r ls (rv.toList ++ st) h' (cl + m_mc (mt a)) (sl + m_ms (mt a)))))
      | .invokestatic _ => match b with
        | 1 => scp st (fun n dp k1 sp k0 st => bIf (Nat.ble ((st.map fun v => v.category).sum) 8) (∃ n0 f0 n1 f1, hat h k0 = some (.inl (0, n0, .inl f0)) ∧ hat h k1 = some (.inl (0, n1, .inl f1)) ∧ (¬ sp < 0 ∧ ¬ dp < 0 ∧ ¬ n < 0 ∧ sp.toNatClampNeg + n.toNatClampNeg ≤ n0 ∧ dp.toNatClampNeg + n.toNatClampNeg ≤ n1) ∧ nx g M Post F r ls (st) (h.set k1 (.inl (0, n1, .inl (va_cpy f0 f1 sp.toNatClampNeg dp.toNatClampNeg n.toNatClampNeg)))) cl sl))
        | 2 => s1i st (fun x st => bIf (Nat.ble cl (m_mc M) && Nat.ble sl (m_ms M) && Nat.ble ((st.map fun v => v.category).sum) 8) (nx g M Post F r ls (.int (if 0 ≤ x then x else 0 - x) :: st) h cl sl))
        | 3 => s2i st (fun x y st => bIf (Nat.ble cl (m_mc M) && Nat.ble sl (m_ms M) && Nat.ble ((st.map fun v => v.category).sum) 8) (nx g M Post F r ls (.int (if y < x then y else x) :: st) h cl sl))
        | 9 => False
        | _ => popT (m_np (mt a)) st (fun As st => cok M (mt a) cl sl ls st h (AC g (mt a) (As) h (fun rv h' => nx g M Post F r ls (rv.toList ++ st) h' (cl + m_mc (mt a)) (sl + m_ms (mt a)))))
      | .new _ => mok M cl sl ls st h 1 (ctN a) (nx g M Post F r ls (.ref h.length :: st) (h ++ [.inr (a, dfl a)]) (cl + 1) (sl + ctN a))
      | .newarray _ => s1i st (fun n st => mok M cl sl ls st h 1 n.toNatClampNeg ((¬ n < 0 ∧ n.toNatClampNeg ≤ 1000) ∧ nx g M Post F r ls (.ref h.length :: st) (h ++ [.inl (a, n.toNatClampNeg, .inl (fun _ => 0))]) (cl + 1) (sl + n.toNatClampNeg)))
      | .anewarray _ => s1i st (fun n st => mok M cl sl ls st h 1 n.toNatClampNeg ((¬ n < 0 ∧ n.toNatClampNeg ≤ 1000) ∧ nx g M Post F r ls (.ref h.length :: st) (h ++ [.inl (2, n.toNatClampNeg, .inr (.inr (.inr (.inr (fun _ => none)))))]) (cl + 1) (sl + n.toNatClampNeg)))
      | .multianewarray _ _ => s2i st (fun n k st => mok M cl sl ls st h (1 + n.toNatClampNeg) (n.toNatClampNeg + n.toNatClampNeg * k.toNatClampNeg) ((¬ n < 0 ∧ ¬ k < 0 ∧ n.toNatClampNeg ≤ 50 ∧ k.toNatClampNeg ≤ 50) ∧ nx g M Post F r ls (.ref h.length :: st) (h ++ (.inl (3, n.toNatClampNeg, .inr (.inr (.inr (.inr (fun i => if i < n.toNatClampNeg then some (h.length + 1 + i) else none))))) :: List.replicate n.toNatClampNeg (.inl (0, k.toNatClampNeg, .inl (fun _ => 0))))) (cl + 1 + n.toNatClampNeg) (sl + n.toNatClampNeg + n.toNatClampNeg * k.toNatClampNeg)))
      | .ireturn => r1i st (fun x => zok (m_ret M) x (ret9 M cl sl (Post (some (.int x)) h)))
      | .lreturn => r1l st (fun x => ret9 M cl sl (Post (some (.long x)) h))
      | .freturn => r1f st (fun x => ret9 M cl sl (Post (some (.float x)) h))
      | .return_ => r0 st (ret9 M cl sl (Post none h))
      | _ => False
def wp (g : Glob) (mt : Nat → Mth) (M : Mth) (Post : Option Value → AH → Prop) : Nat → FT
  | 0 => fun _ _ _ _ _ _ => False
  | k + 1 => wpS g mt M Post (wp g mt M Post k)
end
section
def wAt (i : Nat) (x : Cond) : Bool := decide (lw_tbl[i]? = some x) && goodWord x
def wAt0 (i : Nat) (x : Cond) : Bool := decide (lw_tbl[i]? = some x)
theorem wAt_mem {i : Nat} {x : Cond} (h : wAt i x = true) : x ∈ lw_g := by
  simp only [wAt, Bool.and_eq_true, decide_eq_true_eq] at h
  exact List.mem_filter.mpr ⟨List.mem_of_getElem? h.1, h.2⟩
theorem wAt0_mem {i : Nat} {x : Cond} (h : wAt0 i x = true) : x ∈ lw_tbl := List.mem_of_getElem? (of_decide_eq_true h)
def ilen (i : Instr) (len : Nat) : Bool := match i with
  | .bipush _ | .ldc _ | .iload _ | .fload _ | .lload _ | .aload _ | .istore _ | .fstore _ | .lstore _ | .astore _ | .newarray _ => Nat.beq len 2
  | .sipush _ | .ldc_w _ | .ldc2_w _ | .iinc _ _ | .if_icmp _ _ | .ifCond _ _ | .goto _ | .getfield _ | .putfield _ | .getstatic _ | .invokevirtual _ | .invokespecial _ | .invokestatic _ | .new _ | .anewarray _ => Nat.beq len 3
  | .multianewarray _ _ => Nat.beq len 4
  | .tableswitch _ _ _ _ => true
  | _ => Nat.beq len 1
def chkR (M M' : Mth) : Bool := Nat.ble (m_dep M' + 1) (m_dep M) && Nat.ble (8 + (m_nL M' + 11) + 40 * m_dep M') (40 * m_dep M)
def chkX (mt : Nat → Mth) (M : Mth) (pc : Nat) (i : Instr) (a b c : Nat) (v : Int32) : Bool := match i with
  | .iconst n => decide (Int32.ofInt n = v)
  | .bipush n => decide ((Int8.ofInt n).toInt32 = v)
  | .sipush n => decide ((Int16.ofInt n).toInt32 = v)
  | .lconst n => decide (Int64.ofNat (n : Nat) = Int64.ofNat a)
  | .fconst n => decide (n = 0)
  | .iinc _ n => decide (Int32.ofInt n = v)
  | .ldc idx => match b with
    | 0 => wAt c (.constant (m_own M) idx v)
    | 1 => wAt c (.constantFloat (m_own M) idx (UInt32.ofNat a))
    | _ => decide (m_own M = "SceneShots$Reader") && ((Nat.beq idx 47 && Nat.beq a 1000) || (Nat.beq idx 56 && Nat.beq a 1001) || (Nat.beq idx 61 && Nat.beq a 1002))
  | .ldc_w idx => wAt c (.constant (m_own M) idx v)
  | .ldc2_w idx => wAt c (.constantLong (m_own M) idx (Int64.ofNat a))
  | .if_icmp _ off => decide ((pc : Int) + off = (a : Int))
  | .ifCond _ off => decide ((pc : Int) + off = (a : Int))
  | .goto off => decide ((pc : Int) + off = (a : Int))
  | .tableswitch dflt lo hi offs => decide ((pc : Int) + dflt = (a : Int)) && decide (lo + offs.toList.length = hi + 1) && offs.toList.all (fun o => decide (0 ≤ (pc : Int) + o))
  | .getfield idx => match Nat.blt a 7 with
    | true => Nat.blt b (ctN a) && wAt c (.fieldLink (m_own M) idx (ctT a b).1 (ctT a b).2.1 (ctT a b).2.2.1)
    | false => wAt c (.fieldLink (m_own M) idx "java/lang/String" (roN b).1 (roN b).2)
  | .putfield idx => Nat.blt a 7 && Nat.blt b (ctN a) && wAt c (.fieldLink (m_own M) idx (ctT a b).1 (ctT a b).2.1 (ctT a b).2.2.1) && (decide ((ctT a b).2.2.2 = false) || (decide ((m_y M).name = "<init>") && decide ((ctT a b).1 = m_own M)))
  | .getstatic idx => match a with
    | 0 => wAt0 c (.fieldLinkNest (m_own M) idx "SceneShots" "LOWEST" "[I" "SceneShots")
    | 1 => wAt0 c (.fieldLinkNest (m_own M) idx "SceneShots" "HIGHEST" "[I" "SceneShots")
    | 2 => wAt c (.fieldLink (m_own M) idx "java/lang/String" "COMPACT_STRINGS" "Z")
    | _ => wAt c (.fieldLink (m_own M) idx "jdk/internal/util/Preconditions" "SIOOBE_FORMATTER" "Ljava/util/function/BiFunction;")
  | .invokevirtual idx => Nat.blt a 200 && chkR M (mt a) && wAt c (.methodLink (m_own M) idx (m_y (mt a))) && wAt (m_wx (mt a)).1 (.instanceMethod (m_y (mt a))) && wAt (m_wx (mt a)).2.1 (.selects (m_y (mt a)).cls (m_y (mt a)) (m_y (mt a)))
  | .invokespecial idx => match b with
    | 2 => Nat.ble 1 (m_dep M) && wAt c (.methodLink (m_own M) idx Lib.objectInit)
    | _ => Nat.blt a 200 && chkR M (mt a) && (wAt c (.methodLink (m_own M) idx (m_y (mt a))) || wAt0 c (.methodLinkNest (m_own M) idx (m_y (mt a)) "SceneShots")) && wAt (m_wx (mt a)).1 (.instanceMethod (m_y (mt a))) && decide ((m_y (mt a)).name = "<init>") && decide (m_ret (mt a) = none)
  | .invokestatic idx => match b with
    | 1 => Nat.ble 1 (m_dep M) && wAt c (.methodLink (m_own M) idx arraycopyName)
    | 2 => Nat.ble 1 (m_dep M) && wAt c (.methodLink (m_own M) idx Lib.Math.abs.name)
    | 3 => Nat.ble 1 (m_dep M) && wAt c (.methodLink (m_own M) idx Lib.Math.min.name)
    | 9 => true
    | _ => Nat.blt a 200 && chkR M (mt a) && wAt c (.methodLink (m_own M) idx (m_y (mt a))) && wAt (m_wx (mt a)).1 (.static (m_y (mt a)))
  | .new idx => Nat.blt a 7 && wAt c (.classLink (m_own M) idx (ctR a)) && wAt b (.instantiable (ctR a) (ctN a)) && wAt v.toNatClampNeg (.initialized (ctR a))
  | .newarray t => match a with
    | 0 => decide (t = .int)
    | 1 => decide (t = .boolean)
    | _ => false
  | .anewarray idx => wAt c (.classLink (m_own M) idx "SceneShots$Scene")
  | .multianewarray idx d => decide (d = 2) && wAt c (.classLink (m_own M) idx "[[I")
  | .ireturn => (m_ret M).isSome
  | .lreturn => decide (m_ret M = some .long)
  | .freturn => decide (m_ret M = some .float)
  | .return_ => decide (m_ret M = none)
  | _ => true
def chkE (mt : Nat → Mth) (M : Mth) (e : En) : Bool := decide (decode (m_cc M) e.1 = .ok (e.2.2.1, e.2.1)) && ilen e.2.2.1 e.2.1 && chkX mt M e.1 e.2.2.1 e.2.2.2.1 e.2.2.2.2.1 e.2.2.2.2.2.1 e.2.2.2.2.2.2
def chkL (mt : Nat → Mth) (M : Mth) : List En → Bool
  | [] => true
  | e :: r => chkE mt M e && (match r with
    | [] => true
    | e2 :: _ => Nat.beq (e.1 + e.2.1) e2.1) && chkL mt M r
theorem dropTo_chk {mt : Nat → Mth} {M : Mth} (t : Nat) : ∀ l : List En, chkL mt M l = true → chkL mt M (dropTo t l) = true ∧ ∀ e r, dropTo t l = e :: r → e.1 = t := by
  intro l
  induction l with
  | nil => intro h; exact ⟨h, fun e r z => by cases z⟩
  | cons e l ih =>
    intro h
    unfold dropTo
    cases hb : Nat.beq e.1 t with
    | true => exact ⟨h, fun e2 r z => by cases z; exact Nat.eq_of_beq_eq_true hb⟩
    | false =>
      simp only [chkL, Bool.and_eq_true] at h
      exact ih h.2
def Sd (g : Glob) (mt : Nat → Mth) (M : Mth) (Post : Option Value → AH → Prop) (F : FT) : Prop := ∀ (r : List En) (ls : List (Option Value)) (st : List Value) (h : AH) (cl sl : Nat), chkL mt M r = true → F r ls st h cl sl → ∀ (e : En) (r' : List En), r = e :: r' → AW g M Post cl sl e.1 ls st h
theorem nx_of {g : Glob} {mt : Nat → Mth} {M : Mth} {Post : Option Value → AH → Prop} {F : FT} (hF : Sd g mt M Post F) {e : En} {r : List En} (hc : chkL mt M (e :: r) = true) {ls : List (Option Value)} {st : List Value} {h : AH} {cl sl : Nat} (hn : nx g M Post F r ls st h cl sl) : AW g M Post cl sl (e.1 + e.2.1) ls st h := by
  simp only [chkL, Bool.and_eq_true] at hc
  cases r with
  | nil => exact hn.elim
  | cons e2 r2 =>
    have e1 : e.1 + e.2.1 = e2.1 := Nat.eq_of_beq_eq_true hc.1.2
    rw [e1]
    replace hn : (match List.elem e2.1 (m_stops M) with
      | true => AW g M Post cl sl e2.1 ls st h
      | false => F (e2 :: r2) ls st h cl sl) := hn
    cases hs : (m_stops M).elem e2.1 with
    | true => rw [hs] at hn; exact hn
    | false => rw [hs] at hn; exact hF _ _ _ _ _ _ hc.2 hn e2 r2 rfl
theorem jp_of {g : Glob} {mt : Nat → Mth} {M : Mth} {Post : Option Value → AH → Prop} {F : FT} (hF : Sd g mt M Post F) (hF0 : ∀ ls st h cl sl, ¬ F [] ls st h cl sl) (hc : chkL mt M (m_code M) = true) {t : Nat} {ls : List (Option Value)} {st : List Value} {h : AH} {cl sl : Nat} (hn : jp g M Post F t ls st h cl sl) : AW g M Post cl sl t ls st h := by
  unfold jp at hn
  cases hs : (m_stops M).elem t with
  | true => rw [hs] at hn; exact hn
  | false =>
    rw [hs] at hn
    obtain ⟨h1, h2⟩ := dropTo_chk (mt := mt) (M := M) t (m_code M) hc
    cases hd : dropTo t (m_code M) with
    | nil => rw [hd] at hn; exact (hF0 _ _ _ _ _ hn).elim
    | cons e r =>
      rw [hd] at hn h1
      have := hF _ _ _ _ _ _ h1 hn e r rfl
      rw [h2 e r hd] at this
      exact this
theorem pop_st {n : Nat} {st As r : List Value} (h : popN n [] st = some (As, r)) : st = As.reverse ++ r ∧ As.length = n := by
  obtain ⟨h1, h2⟩ := popN_eq n [] st As r h
  exact ⟨by simpa using h1, by simpa using h2⟩
theorem cok_of {M M' : Mth} {cl sl : Nat} {ls : List (Option Value)} {st : List Value} {h : AH} {P : Prop} (hh : cok M M' cl sl ls st h P) : (cl + m_mc M' ≤ m_mc M ∧ sl + m_ms M' ≤ m_ms M) ∧ (st.map fun v => v.category).sum ≤ 8 ∧ (m_mc M' = 0 ∨ (h.length ≤ 1000 ∧ okS h.length st = true ∧ okL h.length ls = true)) ∧ P := by
  obtain ⟨h1, h2⟩ := bIf_of hh
  simp only [Bool.and_eq_true] at h1
  refine ⟨⟨Nat.le_of_ble_eq_true h1.1.1, Nat.le_of_ble_eq_true h1.1.2⟩, Nat.le_of_ble_eq_true h1.2, ?_⟩
  cases hb : Nat.beq (m_mc M') 0 with
  | true => rw [hb] at h2; exact ⟨Or.inl (Nat.eq_of_beq_eq_true hb), h2⟩
  | false => rw [hb] at h2; exact ⟨Or.inr h2.1, h2.2⟩
theorem mok_of {M : Mth} {cl sl : Nat} {ls : List (Option Value)} {st : List Value} {h : AH} {dc ds : Nat} {P : Prop} (hh : mok M cl sl ls st h dc ds P) : m_mc M ≠ 0 ∧ cl + dc ≤ m_mc M ∧ sl + ds ≤ m_ms M ∧ okH h = true ∧ okS h.length st = true ∧ okL h.length ls = true ∧ P := by
  obtain ⟨h1, h2⟩ := bIf_of hh
  simp only [Bool.and_eq_true, Bool.not_eq_true'] at h1
  exact ⟨fun z => (by have h9 := h1.1.1; rw [z] at h9; exact absurd h9 (by decide)), Nat.le_of_ble_eq_true h1.1.2, Nat.le_of_ble_eq_true h1.2, h2.1.1, h2.1.2.1, h2.1.2.2, h2.2⟩
theorem rcv_of {M' : Mth} {h : AH} {b : Nat} {P : Prop} (hh : rcv M' h b P) : ((∃ a fs, a < 7 ∧ hat h b = some (.inr (a, fs)) ∧ ctR a = (m_y M').cls) ∨ ((b = 1000 ∨ b = 1001 ∨ b = 1002) ∧ (m_y M').cls = "java/lang/String")) ∧ P := by
  unfold rcv at hh
  cases hb : Nat.blt b 1000 with
  | true =>
    rw [hb] at hh
    dsimp only at hh
    split at hh
    · rename_i a fs he
      obtain ⟨z1, z2⟩ := bIf_of hh
      simp only [Bool.and_eq_true, decide_eq_true_eq] at z1
      refine ⟨Or.inl ⟨a, fs, Nat.le_of_ble_eq_true z1.1, ?_, z1.2⟩, z2⟩
      unfold hat
      rw [hb]
      exact he
    · exact hh.elim
  | false =>
    rw [hb] at hh
    obtain ⟨z1, z2⟩ := bIf_of hh
    simp only [Bool.and_eq_true, Bool.or_eq_true, decide_eq_true_eq] at z1
    refine ⟨Or.inr ⟨?_, z1.2⟩, z2⟩
    rcases z1.1 with (z | z) | z
    · exact Or.inl (Nat.eq_of_beq_eq_true z)
    · exact Or.inr (Or.inl (Nat.eq_of_beq_eq_true z))
    · exact Or.inr (Or.inr (Nat.eq_of_beq_eq_true z))
theorem ret9_of {M : Mth} {cl sl : Nat} {P : Prop} (h : ret9 M cl sl P) : cl ≤ m_mc M ∧ sl ≤ m_ms M ∧ P := by
  obtain ⟨h1, h2⟩ := bIf_of h
  simp only [Bool.and_eq_true] at h1
  exact ⟨Nat.le_of_ble_eq_true h1.1, Nat.le_of_ble_eq_true h1.2, h2⟩
theorem zok_of {ty : Option FieldType} {v : Int32} {P : Prop} (h : zok ty v P) : ∃ t, ty = some t ∧ narrow t (.int v) = .int v ∧ P := by
  unfold zok at h
  split at h
  · exact ⟨.int, rfl, rfl, h⟩
  · exact ⟨_, rfl, h⟩
  · exact h.elim
theorem wpS_sound {g : Glob} {mt : Nat → Mth} {M : Mth} {Post : Option Value → AH → Prop} (hmt : ∀ a, a < 200 → MOK (mt a)) (hcode : chkL mt M (m_code M) = true) {F : FT} (hF : Sd g mt M Post F) (hF0 : ∀ ls st h cl sl, ¬ F [] ls st h cl sl) : Sd g mt M Post (wpS g mt M Post F) := by
  intro r0 ls st h cl sl hcr hw e r' hr
  subst hr
  have hce := hcr
  simp only [chkL, Bool.and_eq_true] at hce
  obtain ⟨⟨hce, -⟩, -⟩ := hce
  obtain ⟨pc, len, i, a, b, c, v⟩ := e
  have N : ∀ {ls : List (Option Value)} {st : List Value} {h : AH} {cl sl : Nat}, nx g M Post F r' ls st h cl sl → AW g M Post cl sl (pc + len) ls st h := fun z => nx_of hF hcr z
  have J : ∀ {t : Nat} {ls : List (Option Value)} {st : List Value} {h : AH} {cl sl : Nat}, jp g M Post F t ls st h cl sl → AW g M Post cl sl t ls st h := fun z => jp_of hF hF0 hcode z
  simp only [chkE, Bool.and_eq_true, decide_eq_true_eq] at hce
  obtain ⟨⟨hd, hlen⟩, hx⟩ := hce
  show AW g M Post cl sl pc ls st h
  cases i with
  | iconst n =>
    have hl : len = 1 := Nat.eq_of_beq_eq_true hlen
    subst hl
    exact aw_iconst hd (of_decide_eq_true hx) (N hw)
  | bipush n =>
    have hl : len = 2 := Nat.eq_of_beq_eq_true hlen
    subst hl
    exact aw_bipush hd (of_decide_eq_true hx) (N hw)
  | sipush n =>
    have hl : len = 3 := Nat.eq_of_beq_eq_true hlen
    subst hl
    exact aw_sipush hd (of_decide_eq_true hx) (N hw)
  | lconst n =>
    have hl : len = 1 := Nat.eq_of_beq_eq_true hlen
    subst hl
    exact aw_lconst hd (of_decide_eq_true hx) (N hw)
  | fconst n =>
    have hl : len = 1 := Nat.eq_of_beq_eq_true hlen
    subst hl
    have hz : n = 0 := of_decide_eq_true hx
    subst hz
    exact aw_fconst0 hd (N hw)
  | ldc idx =>
    have hl : len = 2 := Nat.eq_of_beq_eq_true hlen
    subst hl
    match b, hx, hw with
    | 0, hx, hw => exact aw_ldc hd (wAt_mem hx) (N hw)
    | 1, hx, hw => exact aw_ldcf hd (wAt_mem hx) (N hw)
    | b + 2, hx, hw =>
      have hx2 : (decide (m_own M = "SceneShots$Reader") && ((Nat.beq idx 47 && Nat.beq a 1000) || (Nat.beq idx 56 && Nat.beq a 1001) || (Nat.beq idx 61 && Nat.beq a 1002))) = true := hx
      simp only [Bool.and_eq_true, Bool.or_eq_true, decide_eq_true_eq] at hx2
      obtain ⟨ho, (⟨z1, z2⟩ | ⟨z1, z2⟩) | ⟨z1, z2⟩⟩ := hx2
      · have z1 := Nat.eq_of_beq_eq_true z1
        have z2 := Nat.eq_of_beq_eq_true z2
        subst z1; subst z2
        exact aw_ldcS (tx := "players") hd (by decide) (fun G => by rw [ho]; exact G.2.2.2.2.2.2.2.1.1) (N hw)
      · have z1 := Nat.eq_of_beq_eq_true z1
        have z2 := Nat.eq_of_beq_eq_true z2
        subst z1; subst z2
        exact aw_ldcS (tx := "lines") hd (by decide) (fun G => by rw [ho]; exact G.2.2.2.2.2.2.2.1.2.1) (N hw)
      · have z1 := Nat.eq_of_beq_eq_true z1
        have z2 := Nat.eq_of_beq_eq_true z2
        subst z1; subst z2
        exact aw_ldcS (tx := "shot") hd (by decide) (fun G => by rw [ho]; exact G.2.2.2.2.2.2.2.1.2.2.1) (N hw)
  | ldc_w idx =>
    have hl : len = 3 := Nat.eq_of_beq_eq_true hlen
    subst hl
    exact aw_ldcw hd (wAt_mem hx) (N hw)
  | ldc2_w idx =>
    have hl : len = 3 := Nat.eq_of_beq_eq_true hlen
    subst hl
    exact aw_ldc2 hd (wAt_mem hx) (N hw)
  | iload_n j =>
    have hl : len = 1 := Nat.eq_of_beq_eq_true hlen
    subst hl
    obtain ⟨x, h1, hw⟩ := lI_of hw
    exact aw_iload_n hd h1 (N hw)
  | iload j =>
    have hl : len = 2 := Nat.eq_of_beq_eq_true hlen
    subst hl
    obtain ⟨x, h1, hw⟩ := lI_of hw
    exact aw_iload hd h1 (N hw)
  | fload_n j =>
    have hl : len = 1 := Nat.eq_of_beq_eq_true hlen
    subst hl
    obtain ⟨x, h1, hw⟩ := lF_of hw
    exact aw_fload_n hd h1 (N hw)
  | fload j =>
    have hl : len = 2 := Nat.eq_of_beq_eq_true hlen
    subst hl
    obtain ⟨x, h1, hw⟩ := lF_of hw
    exact aw_fload hd h1 (N hw)
  | lload_n j =>
    have hl : len = 1 := Nat.eq_of_beq_eq_true hlen
    subst hl
    obtain ⟨x, h1, hw⟩ := lL_of hw
    exact aw_lload_n hd h1 (N hw)
  | lload j =>
    have hl : len = 2 := Nat.eq_of_beq_eq_true hlen
    subst hl
    obtain ⟨x, h1, hw⟩ := lL_of hw
    exact aw_lload hd h1 (N hw)
  | aload_n j =>
    have hl : len = 1 := Nat.eq_of_beq_eq_true hlen
    subst hl
    obtain ⟨x, h1, hw⟩ := lR_of hw
    exact aw_aload_n hd h1 (N hw)
  | aload j =>
    have hl : len = 2 := Nat.eq_of_beq_eq_true hlen
    subst hl
    obtain ⟨x, h1, hw⟩ := lR_of hw
    exact aw_aload hd h1 (N hw)
  | istore_n j =>
    have hl : len = 1 := Nat.eq_of_beq_eq_true hlen
    subst hl
    obtain ⟨x, st, rfl, hw⟩ := s1i_of hw
    obtain ⟨h1, hw⟩ := bIf_of hw
    simp only [Bool.and_eq_true, Bool.not_eq_true'] at h1
    exact aw_istore_n hd rfl (Nat.le_of_ble_eq_true h1.1) h1.2 (N hw)
  | istore j =>
    have hl : len = 2 := Nat.eq_of_beq_eq_true hlen
    subst hl
    obtain ⟨x, st, rfl, hw⟩ := s1i_of hw
    obtain ⟨h1, hw⟩ := bIf_of hw
    simp only [Bool.and_eq_true, Bool.not_eq_true'] at h1
    exact aw_istore hd (Nat.le_of_ble_eq_true h1.1) h1.2 (N hw)
  | fstore_n j =>
    have hl : len = 1 := Nat.eq_of_beq_eq_true hlen
    subst hl
    obtain ⟨x, st, rfl, hw⟩ := s1f_of hw
    obtain ⟨h1, hw⟩ := bIf_of hw
    simp only [Bool.and_eq_true, Bool.not_eq_true'] at h1
    exact aw_fstore_n hd rfl (Nat.le_of_ble_eq_true h1.1) h1.2 (N hw)
  | fstore j =>
    have hl : len = 2 := Nat.eq_of_beq_eq_true hlen
    subst hl
    obtain ⟨x, st, rfl, hw⟩ := s1f_of hw
    obtain ⟨h1, hw⟩ := bIf_of hw
    simp only [Bool.and_eq_true, Bool.not_eq_true'] at h1
    exact aw_fstore hd (Nat.le_of_ble_eq_true h1.1) h1.2 (N hw)
  | astore_n j =>
    have hl : len = 1 := Nat.eq_of_beq_eq_true hlen
    subst hl
    obtain ⟨x, st, rfl, hw⟩ := s1r_of hw
    obtain ⟨h1, hw⟩ := bIf_of hw
    simp only [Bool.and_eq_true, Bool.not_eq_true'] at h1
    exact aw_astore_n hd rfl (Nat.le_of_ble_eq_true h1.1) h1.2 (N hw)
  | astore j =>
    have hl : len = 2 := Nat.eq_of_beq_eq_true hlen
    subst hl
    obtain ⟨x, st, rfl, hw⟩ := s1r_of hw
    obtain ⟨h1, hw⟩ := bIf_of hw
    simp only [Bool.and_eq_true, Bool.not_eq_true'] at h1
    exact aw_astore hd (Nat.le_of_ble_eq_true h1.1) h1.2 (N hw)
  | lstore_n j =>
    have hl : len = 1 := Nat.eq_of_beq_eq_true hlen
    subst hl
    obtain ⟨x, st, rfl, hw⟩ := s1l_of hw
    obtain ⟨h1, hw⟩ := bIf_of hw
    simp only [Bool.and_eq_true, Bool.not_eq_true'] at h1
    exact aw_lstore_n hd rfl (Nat.le_of_ble_eq_true h1.1) h1.2 (N hw)
  | lstore j =>
    have hl : len = 2 := Nat.eq_of_beq_eq_true hlen
    subst hl
    obtain ⟨x, st, rfl, hw⟩ := s1l_of hw
    obtain ⟨h1, hw⟩ := bIf_of hw
    simp only [Bool.and_eq_true, Bool.not_eq_true'] at h1
    exact aw_lstore hd (Nat.le_of_ble_eq_true h1.1) h1.2 (N hw)
  | iinc j n =>
    have hl : len = 3 := Nat.eq_of_beq_eq_true hlen
    subst hl
    obtain ⟨x, h0, hw⟩ := lI_of hw
    obtain ⟨h1, hw⟩ := bIf_of hw
    simp only [Bool.and_eq_true, Bool.not_eq_true'] at h1
    exact aw_iinc hd h0 (of_decide_eq_true hx) (Nat.le_of_ble_eq_true h1.1) h1.2 (N hw)
  | iadd =>
    have hl : len = 1 := Nat.eq_of_beq_eq_true hlen
    subst hl
    obtain ⟨x, y, st, rfl, hw⟩ := s2i_of hw
    exact aw_iadd hd (N hw)
  | isub =>
    have hl : len = 1 := Nat.eq_of_beq_eq_true hlen
    subst hl
    obtain ⟨x, y, st, rfl, hw⟩ := s2i_of hw
    exact aw_isub hd (N hw)
  | imul =>
    have hl : len = 1 := Nat.eq_of_beq_eq_true hlen
    subst hl
    obtain ⟨x, y, st, rfl, hw⟩ := s2i_of hw
    exact aw_imul hd (N hw)
  | iand =>
    have hl : len = 1 := Nat.eq_of_beq_eq_true hlen
    subst hl
    obtain ⟨x, y, st, rfl, hw⟩ := s2i_of hw
    exact aw_iand hd (N hw)
  | ior =>
    have hl : len = 1 := Nat.eq_of_beq_eq_true hlen
    subst hl
    obtain ⟨x, y, st, rfl, hw⟩ := s2i_of hw
    exact aw_ior hd (N hw)
  | ixor =>
    have hl : len = 1 := Nat.eq_of_beq_eq_true hlen
    subst hl
    obtain ⟨x, y, st, rfl, hw⟩ := s2i_of hw
    exact aw_ixor hd (N hw)
  | ishl =>
    have hl : len = 1 := Nat.eq_of_beq_eq_true hlen
    subst hl
    obtain ⟨x, y, st, rfl, hw⟩ := s2i_of hw
    exact aw_ishl hd (N hw)
  | ishr =>
    have hl : len = 1 := Nat.eq_of_beq_eq_true hlen
    subst hl
    obtain ⟨x, y, st, rfl, hw⟩ := s2i_of hw
    exact aw_ishr hd (N hw)
  | iushr =>
    have hl : len = 1 := Nat.eq_of_beq_eq_true hlen
    subst hl
    obtain ⟨x, y, st, rfl, hw⟩ := s2i_of hw
    exact aw_iushr hd (N hw)
  | ineg =>
    have hl : len = 1 := Nat.eq_of_beq_eq_true hlen
    subst hl
    obtain ⟨x, st, rfl, hw⟩ := s1i_of hw
    exact aw_ineg hd (N hw)
  | i2l =>
    have hl : len = 1 := Nat.eq_of_beq_eq_true hlen
    subst hl
    obtain ⟨x, st, rfl, hw⟩ := s1i_of hw
    exact aw_i2l hd (N hw)
  | i2c =>
    have hl : len = 1 := Nat.eq_of_beq_eq_true hlen
    subst hl
    obtain ⟨x, st, rfl, hw⟩ := s1i_of hw
    exact aw_i2c hd (N hw)
  | i2f =>
    have hl : len = 1 := Nat.eq_of_beq_eq_true hlen
    subst hl
    obtain ⟨x, st, rfl, hw⟩ := s1i_of hw
    exact aw_i2f hd (N hw)
  | f2i =>
    have hl : len = 1 := Nat.eq_of_beq_eq_true hlen
    subst hl
    obtain ⟨x, st, rfl, hw⟩ := s1f_of hw
    exact aw_f2i hd (N hw)
  | ladd =>
    have hl : len = 1 := Nat.eq_of_beq_eq_true hlen
    subst hl
    obtain ⟨x, y, st, rfl, hw⟩ := s2l_of hw
    exact aw_ladd hd (N hw)
  | lsub =>
    have hl : len = 1 := Nat.eq_of_beq_eq_true hlen
    subst hl
    obtain ⟨x, y, st, rfl, hw⟩ := s2l_of hw
    exact aw_lsub hd (N hw)
  | lmul =>
    have hl : len = 1 := Nat.eq_of_beq_eq_true hlen
    subst hl
    obtain ⟨x, y, st, rfl, hw⟩ := s2l_of hw
    exact aw_lmul hd (N hw)
  | lcmp =>
    have hl : len = 1 := Nat.eq_of_beq_eq_true hlen
    subst hl
    obtain ⟨x, y, st, rfl, hw⟩ := s2l_of hw
    exact aw_lcmp hd (N hw)
  | fadd =>
    have hl : len = 1 := Nat.eq_of_beq_eq_true hlen
    subst hl
    obtain ⟨x, y, st, rfl, h1, hw⟩ := s2f_of hw
    exact aw_fadd hd h1 (N hw)
  | fmul =>
    have hl : len = 1 := Nat.eq_of_beq_eq_true hlen
    subst hl
    obtain ⟨x, y, st, rfl, h1, hw⟩ := s2f_of hw
    exact aw_fmul hd h1 (N hw)
  | fdiv =>
    have hl : len = 1 := Nat.eq_of_beq_eq_true hlen
    subst hl
    obtain ⟨x, y, st, rfl, h1, hw⟩ := s2f_of hw
    exact aw_fdiv hd h1 (N hw)
  | fcmp op =>
    have hl : len = 1 := Nat.eq_of_beq_eq_true hlen
    subst hl
    obtain ⟨x, y, st, rfl, hw⟩ := s2f_of hw
    exact aw_fcmp hd (N hw)
  | dup =>
    have hl : len = 1 := Nat.eq_of_beq_eq_true hlen
    subst hl
    obtain ⟨x, st, rfl, h1, hw⟩ := s1v_of hw
    exact aw_dup hd h1 (N hw)
  | pop =>
    have hl : len = 1 := Nat.eq_of_beq_eq_true hlen
    subst hl
    obtain ⟨x, st, rfl, h1, hw⟩ := s1v_of hw
    exact aw_pop hd h1 (N hw)
  | dup2 =>
    have hl : len = 1 := Nat.eq_of_beq_eq_true hlen
    subst hl
    obtain ⟨x, y, st, rfl, h1, h2, hw⟩ := s2v_of hw
    exact aw_dup2 hd h1 h2 (N hw)
  | if_icmp cnd off =>
    have hl : len = 3 := Nat.eq_of_beq_eq_true hlen
    subst hl
    obtain ⟨x, y, st, rfl, hw⟩ := s2i_of hw
    have ht : (pc : Int) + off = (a : Int) := of_decide_eq_true hx
    cases cnd with
    | eq => exact aw_icmp_eq hd ht (fun z => J (hw.1 z)) (fun z => N (hw.2 z))
    | ne => exact aw_icmp_ne hd ht (fun z => J (hw.1 z)) (fun z => N (hw.2 z))
    | lt => exact aw_icmp_lt hd ht (fun z => J (hw.1 z)) (fun z => N (hw.2 z))
    | ge => exact aw_icmp_ge hd ht (fun z => J (hw.1 z)) (fun z => N (hw.2 z))
    | gt => exact aw_icmp_gt hd ht (fun z => J (hw.1 z)) (fun z => N (hw.2 z))
    | le => exact aw_icmp_le hd ht (fun z => J (hw.1 z)) (fun z => N (hw.2 z))
  | ifCond cnd off =>
    have hl : len = 3 := Nat.eq_of_beq_eq_true hlen
    subst hl
    obtain ⟨x, st, rfl, hw⟩ := s1i_of hw
    have ht : (pc : Int) + off = (a : Int) := of_decide_eq_true hx
    cases cnd with
    | eq => exact aw_if_eq hd ht (fun z => J (hw.1 z)) (fun z => N (hw.2 z))
    | ne => exact aw_if_ne hd ht (fun z => J (hw.1 z)) (fun z => N (hw.2 z))
    | lt => exact aw_if_lt hd ht (fun z => J (hw.1 z)) (fun z => N (hw.2 z))
    | ge => exact aw_if_ge hd ht (fun z => J (hw.1 z)) (fun z => N (hw.2 z))
    | gt => exact aw_if_gt hd ht (fun z => J (hw.1 z)) (fun z => N (hw.2 z))
    | le => exact aw_if_le hd ht (fun z => J (hw.1 z)) (fun z => N (hw.2 z))
  | goto off =>
    have hl : len = 3 := Nat.eq_of_beq_eq_true hlen
    subst hl
    exact aw_goto hd (of_decide_eq_true hx) (J hw)
  | tableswitch dflt lo hi offs =>
    obtain ⟨x, st, rfl, h1, hw⟩ := s1i_of hw
    have hx2 : (decide ((pc : Int) + dflt = (a : Int)) && decide (lo + offs.toList.length = hi + 1) && offs.toList.all (fun o => decide (0 ≤ (pc : Int) + o))) = true := hx
    simp only [Bool.and_eq_true, decide_eq_true_eq] at hx2
    refine aw_tsw hd hx2.1.1 (fun z => J (h1 z)) (fun z1 z2 => ?_)
    obtain ⟨off, y1, y2⟩ := swp_get offs.toList lo hw (by omega) (by have := hx2.1.2; omega)
    have y3 : 0 ≤ (pc : Int) + off := of_decide_eq_true (List.all_eq_true.mp hx2.2 off (List.mem_of_getElem? y1))
    exact ⟨off, ((pc : Int) + off).toNat, by rw [← Array.getElem?_toList]; exact y1, by omega, J y2⟩
  | getfield idx =>
    have hl : len = 3 := Nat.eq_of_beq_eq_true hlen
    subst hl
    obtain ⟨k, st, rfl, hw⟩ := s1r_of hw
    rcases bEl_of hw with ⟨h7, hw⟩ | ⟨h7, hw⟩
    · simp only [chkX, h7, Bool.and_eq_true] at hx
      obtain ⟨fs, h1, hw⟩ := oO_of hw
      obtain ⟨y, h2, hw⟩ := oV_of hw
      exact aw_get hd (Nat.le_of_ble_eq_true h7) (Nat.le_of_ble_eq_true hx.1) (wAt_mem hx.2) h1 h2 (N hw)
    · simp only [chkX, h7] at hx
      obtain ⟨y, h2, hw⟩ := oV_of hw
      exact aw_roF hd (wAt_mem hx) h2 (N hw)
  | putfield idx =>
    have hl : len = 3 := Nat.eq_of_beq_eq_true hlen
    subst hl
    obtain ⟨y, k, st, rfl, hw⟩ := svr_of hw
    obtain ⟨fs, h1, hw⟩ := oO_of hw
    obtain ⟨h2, hw⟩ := bIf_of hw
    obtain ⟨h3, h4, hw⟩ := pok_of hw g
    simp only [chkX, Bool.and_eq_true, Bool.or_eq_true, decide_eq_true_eq] at hx
    exact aw_put hd (Nat.le_of_ble_eq_true hx.1.1.1) (Nat.le_of_ble_eq_true hx.1.1.2) (wAt_mem hx.1.2) h1 (Nat.le_of_ble_eq_true h2) hx.2 h3 h4 (N hw)
  | iaload =>
    have hl : len = 1 := Nat.eq_of_beq_eq_true hlen
    subst hl
    obtain ⟨i, k, st, rfl, hw⟩ := sir_of hw
    rcases bEl_of hw with ⟨h7, n, f, h1, h2, hw⟩ | ⟨h7, n, f, h1, h2, hw⟩
    · exact aw_iald hd h1 h2 (N hw)
    · exact aw_roI hd (fun z => by rw [show Nat.blt k 1000 = true from Nat.ble_eq_true_of_le z] at h7; cases h7) h1 h2 (N hw)
  | baload =>
    have hl : len = 1 := Nat.eq_of_beq_eq_true hlen
    subst hl
    obtain ⟨i, k, st, rfl, hw⟩ := sir_of hw
    rcases bEl_of hw with ⟨h7, n, f, h1, h2, hw⟩ | ⟨h7, n, f, h1, h2, hw⟩
    · exact aw_zald hd h1 h2 (N hw)
    · exact aw_roB hd (fun z => by rw [show Nat.blt k 1000 = true from Nat.ble_eq_true_of_le z] at h7; cases h7) h1 h2 (N hw)
  | iastore =>
    have hl : len = 1 := Nat.eq_of_beq_eq_true hlen
    subst hl
    obtain ⟨x, i, k, st, rfl, n, f, h1, h2, hw⟩ := siir_of hw
    exact aw_iast hd h1 h2 (N hw)
  | bastore =>
    have hl : len = 1 := Nat.eq_of_beq_eq_true hlen
    subst hl
    obtain ⟨x, i, k, st, rfl, n, f, h1, h2, hw⟩ := siir_of hw
    exact aw_zast hd h1 h2 (N hw)
  | aaload =>
    have hl : len = 1 := Nat.eq_of_beq_eq_true hlen
    subst hl
    obtain ⟨i, k, st, rfl, t, n, f, q, h0, h1, h2, h3, hw⟩ := sir_of hw
    exact aw_aald hd h0 h1 h2 h3 (N hw)
  | aastore =>
    have hl : len = 1 := Nat.eq_of_beq_eq_true hlen
    subst hl
    obtain ⟨q, i, k, st, rfl, n, f, fs, h1, h2, h3, hw⟩ := srir_of hw
    exact aw_aast hd h1 h3 h2 (N hw)
  | arraylength =>
    have hl : len = 1 := Nat.eq_of_beq_eq_true hlen
    subst hl
    obtain ⟨k, st, rfl, hw⟩ := s1r_of hw
    obtain ⟨h1, hw⟩ := bIf_of hw
    have hk : ¬ k < 1000 := Nat.not_lt.mpr (Nat.le_of_ble_eq_true h1)
    split at hw
    · rename_i n f he
      exact aw_lenI hd hk he (N hw)
    · split at hw
      · rename_i n f he
        exact aw_lenB hd hk he (N hw)
      · exact hw.elim
  | getstatic idx =>
    have hl : len = 3 := Nat.eq_of_beq_eq_true hlen
    subst hl
    match a, hx, hw with
    | 0, hx, hw => exact aw_gsN (ref := "") hd (wAt0_mem hx) (by decide) (fun G => G.2.2.2.2.1.1) (N hw)
    | 1, hx, hw => exact aw_gsN (ref := "") hd (wAt0_mem hx) (by decide) (fun G => G.2.2.2.2.1.2) (N hw)
    | 2, hx, hw => exact aw_gsI hd (wAt_mem hx) (fun G => G.2.2.2.2.2.1) (N hw)
    | 3, hx, hw => exact aw_gsF hd (wAt_mem hx) (N hw.1) (N hw.2)
    | a + 4, hx, hw => exact False.elim hw
  | invokevirtual idx =>
    have hl : len = 3 := Nat.eq_of_beq_eq_true hlen
    subst hl
    simp only [chkX, chkR, Bool.and_eq_true] at hx
    obtain ⟨⟨⟨⟨x1, x2⟩, x3⟩, x4⟩, x5⟩ := hx
    obtain ⟨As, k, st2, he, hw⟩ := popR_of hw
    obtain ⟨e1, e2⟩ := pop_st he
    rw [e1]
    obtain ⟨h1, hw⟩ := rcv_of hw
    obtain ⟨h2, h3, h4, hw⟩ := cok_of hw
    exact aw_callV hd (hmt a (Nat.le_of_ble_eq_true x1)) ⟨Nat.le_of_ble_eq_true x2.1, Nat.le_of_ble_eq_true x2.2⟩ (wAt_mem x3) (wAt_mem x4) (wAt_mem x5) h1 e2 h3 h2 h4 (ac_mono hw (fun rv h' z => N z))
  | invokespecial idx =>
    have hl : len = 3 := Nat.eq_of_beq_eq_true hlen
    subst hl
    by_cases hb2 : b = 2
    · subst hb2
      simp only [chkX, Bool.and_eq_true] at hx
      obtain ⟨k, st, rfl, hw⟩ := s1r_of hw
      obtain ⟨h1, hw⟩ := bIf_of hw
      exact aw_obj hd (wAt_mem hx.2) (Nat.le_of_ble_eq_true hx.1) (Nat.le_of_ble_eq_true h1) (N hw)
    · have hx2 : (Nat.blt a 200 && chkR M (mt a) && (wAt c (.methodLink (m_own M) idx (m_y (mt a))) || wAt0 c (.methodLinkNest (m_own M) idx (m_y (mt a)) "SceneShots")) && wAt (m_wx (mt a)).1 (.instanceMethod (m_y (mt a))) && decide ((m_y (mt a)).name = "<init>") && decide (m_ret (mt a) = none)) = true := by
        match b, hb2, hx with
        | 0, _, hx => exact hx
        | 1, _, hx => exact hx
        | b + 3, _, hx => exact hx
      have hw2 : popR (m_np (mt a)) st (fun As k st => cok M (mt a) cl sl ls st h (AC g (mt a) (.ref k :: As) h (fun rv h' => nx g M Post F r' ls (rv.toList ++ st) h' (cl + m_mc (mt a)) (sl + m_ms (mt a))))) := by
        match b, hb2, hw with
        | 0, _, hw => exact hw
        | 1, _, hw => exact hw
        | b + 3, _, hw => exact hw
      simp only [chkR, Bool.and_eq_true, Bool.or_eq_true, decide_eq_true_eq] at hx2
      obtain ⟨⟨⟨⟨⟨x1, x2⟩, x3⟩, x4⟩, x5⟩, x6⟩ := hx2
      obtain ⟨As, k, st2, he, hw2⟩ := popR_of hw2
      · obtain ⟨e1, e2⟩ := pop_st he
        rw [e1]
        obtain ⟨h2, h3, h4, hw2⟩ := cok_of hw2
        have hq : Cond.methodLink (m_own M) idx (m_y (mt a)) ∈ lw_g ∨ ∃ host, Cond.methodLinkNest (m_own M) idx (m_y (mt a)) host ∈ lw_tbl := by
          rcases x3 with x3 | x3
          · exact Or.inl (wAt_mem x3)
          · exact Or.inr ⟨_, wAt0_mem x3⟩
        exact aw_callI hd (hmt a (Nat.le_of_ble_eq_true x1)) ⟨Nat.le_of_ble_eq_true x2.1, Nat.le_of_ble_eq_true x2.2⟩ hq (wAt_mem x4) x5 x6 e2 h3 h2 h4 (ac_mono hw2 (fun rv h' z => N z))
  | invokestatic idx =>
    have hl : len = 3 := Nat.eq_of_beq_eq_true hlen
    subst hl
    by_cases hb1 : b = 1
    · subst hb1
      simp only [chkX, Bool.and_eq_true] at hx
      obtain ⟨n, dp, k1, sp, k0, st, rfl, hw⟩ := scp_of hw
      obtain ⟨h1, n0, f0, n1, f1, h2, h3, ⟨y1, y2, y3, y4, y5⟩, hw⟩ := bIf_of hw
      exact aw_cpy hd (wAt_mem hx.2) (Nat.le_of_ble_eq_true hx.1) (Nat.le_of_ble_eq_true h1) h2 h3 y1 y2 y3 y4 y5 (N hw)
    by_cases hb2 : b = 2
    · subst hb2
      simp only [chkX, Bool.and_eq_true] at hx
      obtain ⟨x, st, rfl, hw⟩ := s1i_of hw
      obtain ⟨h1, hw⟩ := bIf_of hw
      simp only [Bool.and_eq_true] at h1
      exact aw_abs hd (wAt_mem hx.2) (Nat.le_of_ble_eq_true hx.1) (Nat.le_of_ble_eq_true h1.2) ⟨Nat.le_of_ble_eq_true h1.1.1, Nat.le_of_ble_eq_true h1.1.2⟩ (N hw)
    by_cases hb3 : b = 3
    · subst hb3
      simp only [chkX, Bool.and_eq_true] at hx
      obtain ⟨x, y, st, rfl, hw⟩ := s2i_of hw
      obtain ⟨h1, hw⟩ := bIf_of hw
      simp only [Bool.and_eq_true] at h1
      exact aw_min hd (wAt_mem hx.2) (Nat.le_of_ble_eq_true hx.1) (Nat.le_of_ble_eq_true h1.2) ⟨Nat.le_of_ble_eq_true h1.1.1, Nat.le_of_ble_eq_true h1.1.2⟩ (N hw)
    by_cases hb9 : b = 9
    · subst hb9
      exact False.elim hw
    have hx2 : (Nat.blt a 200 && chkR M (mt a) && wAt c (.methodLink (m_own M) idx (m_y (mt a))) && wAt (m_wx (mt a)).1 (.static (m_y (mt a)))) = true := by
      match b, hb1, hb2, hb3, hb9, hx with
      | 0, _, _, _, _, hx => exact hx
      | 4, _, _, _, _, hx => exact hx
      | 5, _, _, _, _, hx => exact hx
      | 6, _, _, _, _, hx => exact hx
      | 7, _, _, _, _, hx => exact hx
      | 8, _, _, _, _, hx => exact hx
      | b + 10, _, _, _, _, hx => exact hx
    have hw2 : popT (m_np (mt a)) st (fun As st => cok M (mt a) cl sl ls st h (AC g (mt a) As h (fun rv h' => nx g M Post F r' ls (rv.toList ++ st) h' (cl + m_mc (mt a)) (sl + m_ms (mt a))))) := by
      match b, hb1, hb2, hb3, hb9, hw with
      | 0, _, _, _, _, hw => exact hw
      | 4, _, _, _, _, hw => exact hw
      | 5, _, _, _, _, hw => exact hw
      | 6, _, _, _, _, hw => exact hw
      | 7, _, _, _, _, hw => exact hw
      | 8, _, _, _, _, hw => exact hw
      | b + 10, _, _, _, _, hw => exact hw
    simp only [chkR, Bool.and_eq_true] at hx2
    obtain ⟨⟨⟨x1, x2⟩, x3⟩, x4⟩ := hx2
    obtain ⟨As, st2, he, hw2⟩ := popT_of hw2
    obtain ⟨e1, e2⟩ := pop_st he
    rw [e1]
    obtain ⟨h2, h3, h4, hw2⟩ := cok_of hw2
    exact aw_callS hd (hmt a (Nat.le_of_ble_eq_true x1)) ⟨Nat.le_of_ble_eq_true x2.1, Nat.le_of_ble_eq_true x2.2⟩ (wAt_mem x3) (wAt_mem x4) e2 h3 h2 h4 (ac_mono hw2 (fun rv h' z => N z))
  | new idx =>
    have hl : len = 3 := Nat.eq_of_beq_eq_true hlen
    subst hl
    simp only [chkX, Bool.and_eq_true] at hx
    obtain ⟨⟨⟨x1, x2⟩, x3⟩, x4⟩ := hx
    obtain ⟨h1, h2, h3, h4, h5, h6, hw⟩ := mok_of hw
    exact aw_new hd (Nat.le_of_ble_eq_true x1) (wAt_mem x2) (wAt_mem x3) (wAt_mem x4) h1 h2 h3 h4 h5 h6 (N hw)
  | newarray t =>
    have hl : len = 2 := Nat.eq_of_beq_eq_true hlen
    subst hl
    obtain ⟨n, st, rfl, hw⟩ := s1i_of hw
    obtain ⟨h1, h2, h3, h4, h5, h6, ⟨h7, h8⟩, hw⟩ := mok_of hw
    match a, hx, hw with
    | 0, hx, hw =>
      have ht : t = .int := of_decide_eq_true hx
      subst ht
      exact aw_newI hd h7 h8 h1 h2 h3 h4 h5 h6 (N hw)
    | 1, hx, hw =>
      have ht : t = .boolean := of_decide_eq_true hx
      subst ht
      exact aw_newZ hd h7 h8 h1 h2 h3 h4 h5 h6 (N hw)
    | a + 2, hx, hw => cases hx
  | anewarray idx =>
    have hl : len = 3 := Nat.eq_of_beq_eq_true hlen
    subst hl
    obtain ⟨n, st, rfl, hw⟩ := s1i_of hw
    obtain ⟨h1, h2, h3, h4, h5, h6, ⟨h7, h8⟩, hw⟩ := mok_of hw
    exact aw_newQ hd (wAt_mem hx) h7 h8 h1 h2 h3 h4 h5 h6 (N hw)
  | multianewarray idx d =>
    have hl : len = 4 := Nat.eq_of_beq_eq_true hlen
    subst hl
    simp only [chkX, Bool.and_eq_true, decide_eq_true_eq] at hx
    have hd2 := hx.1
    subst hd2
    obtain ⟨n, k, st, rfl, hw⟩ := s2i_of hw
    obtain ⟨h1, h2, h3, h4, h5, h6, ⟨h7, h8, h9, h10⟩, hw⟩ := mok_of hw
    exact aw_newM hd (wAt_mem hx.2) h7 h8 h9 h10 h1 h2 h3 h4 h5 h6 (N hw)
  | ireturn =>
    have hl : len = 1 := Nat.eq_of_beq_eq_true hlen
    subst hl
    obtain ⟨x, rfl, hw⟩ := r1i_of hw
    obtain ⟨t, h1, h2, hw⟩ := zok_of hw
    obtain ⟨h3, h4, hw⟩ := ret9_of hw
    exact aw_zret (st := []) hd h1 h2 h3 h4 hw
  | lreturn =>
    have hl : len = 1 := Nat.eq_of_beq_eq_true hlen
    subst hl
    obtain ⟨x, rfl, hw⟩ := r1l_of hw
    obtain ⟨h3, h4, hw⟩ := ret9_of hw
    exact aw_lret (st := []) hd (of_decide_eq_true hx) h3 h4 hw
  | freturn =>
    have hl : len = 1 := Nat.eq_of_beq_eq_true hlen
    subst hl
    obtain ⟨x, rfl, hw⟩ := r1f_of hw
    obtain ⟨h3, h4, hw⟩ := ret9_of hw
    exact aw_fret (st := []) hd (of_decide_eq_true hx) h3 h4 hw
  | return_ =>
    have hl : len = 1 := Nat.eq_of_beq_eq_true hlen
    subst hl
    obtain ⟨rfl, hw⟩ := r0_of hw
    obtain ⟨h3, h4, hw⟩ := ret9_of hw
    exact aw_vret (st := []) hd (of_decide_eq_true hx) h3 h4 hw
  | _ => exact False.elim hw
theorem wp_sound {g : Glob} {mt : Nat → Mth} {M : Mth} {Post : Option Value → AH → Prop} (hmt : ∀ a, a < 200 → MOK (mt a)) (hcode : chkL mt M (m_code M) = true) : ∀ k : Nat, Sd g mt M Post (wp g mt M Post k) ∧ ∀ ls st h cl sl, ¬ wp g mt M Post k [] ls st h cl sl := by
  intro k
  induction k with
  | zero => exact ⟨fun r ls st h cl sl _ hw => hw.elim, fun _ _ _ _ _ z => z⟩
  | succ k ih => exact ⟨wpS_sound hmt hcode ih.1 ih.2, fun _ _ _ _ _ z => z⟩
/-- from a place of the table on -/
theorem aw_wp {g : Glob} {mt : Nat → Mth} {M : Mth} {Post : Option Value → AH → Prop} (hmt : ∀ a, a < 200 → MOK (mt a)) (hcode : chkL mt M (m_code M) = true) (k : Nat) {pc cl sl : Nat} {ls : List (Option Value)} {st : List Value} {h : AH} (hw : wp g mt M Post k (dropTo pc (m_code M)) ls st h cl sl) : AW g M Post cl sl pc ls st h := by
  obtain ⟨h1, h2⟩ := dropTo_chk (mt := mt) (M := M) pc (m_code M) hcode
  cases hd : dropTo pc (m_code M) with
  | nil => rw [hd] at hw; exact ((wp_sound hmt hcode k).2 _ _ _ _ _ hw).elim
  | cons e r =>
    rw [hd] at hw h1
    have := (wp_sound hmt hcode k).1 _ _ _ _ _ _ h1 hw e r rfl
    rw [h2 e r hd] at this
    exact this
end
section
def tJ0_charAt_5068e : List En := [
  (0, 1, .aload_n 0, 0, 0, 0, 0),
  (1, 3, .invokevirtual 492, 3, 0, 290, 0),
  (4, 3, .ifCond .eq 12, 16, 0, 0, 0),
  (7, 1, .aload_n 0, 0, 0, 0, 0),
  (8, 3, .getfield 9, 100, 0, 939, 0),
  (11, 1, .iload_n 1, 0, 0, 0, 0),
  (12, 3, .invokestatic 495, 5, 0, 294, 0),
  (15, 1, .ireturn, 0, 0, 0, 0),
  (16, 1, .aload_n 0, 0, 0, 0, 0),
  (17, 3, .getfield 9, 100, 0, 939, 0),
  (20, 1, .iload_n 1, 0, 0, 0, 0),
  (21, 3, .invokestatic 498, 0, 9, 0, 0),
  (24, 1, .ireturn, 0, 0, 0, 0)]
def mJ0_charAt_5068e : Mth := (yJ0_charAt_5068e, RJ0, cJ0_charAt_5068e, 2, (some .char), (3, 0, 0), (287, 288, 38, 289), [], tJ0_charAt_5068e, 1)
def tJ0_checkIndex_df160 : List En := [
  (0, 1, .iload_n 0, 0, 0, 0, 0),
  (1, 1, .iload_n 1, 0, 0, 0, 0),
  (2, 3, .getstatic 1053, 3, 0, 300, 0),
  (5, 3, .invokestatic 1059, 6, 0, 302, 0),
  (8, 1, .pop, 0, 0, 0, 0),
  (9, 1, .return_, 0, 0, 0, 0)]
def mJ0_checkIndex_df160 : Mth := (yJ0_checkIndex_df160, RJ0, cJ0_checkIndex_df160, 2, none, (1, 0, 0), (298, 0, 38, 299), [], tJ0_checkIndex_df160, 2)
def tJ0_coder_7d493 : List En := [
  (0, 3, .getstatic 38, 2, 0, 284, 0),
  (3, 3, .ifCond .eq 10, 13, 0, 0, 0),
  (6, 1, .aload_n 0, 0, 0, 0, 0),
  (7, 3, .getfield 15, 100, 1, 940, 0),
  (10, 3, .goto 4, 14, 0, 0, 0),
  (13, 1, .iconst 1, 0, 0, 0, 1),
  (14, 1, .ireturn, 0, 0, 0, 0)]
def mJ0_coder_7d493 : Mth := (yJ0_coder_7d493, RJ0, cJ0_coder_7d493, 1, (some .byte), (0, 0, 0), (281, 282, 38, 283), [], tJ0_coder_7d493, 0)
def tJ0_isLatin1_aae02 : List En := [
  (0, 3, .getstatic 38, 2, 0, 284, 0),
  (3, 3, .ifCond .eq 14, 17, 0, 0, 0),
  (6, 1, .aload_n 0, 0, 0, 0, 0),
  (7, 3, .getfield 15, 100, 1, 940, 0),
  (10, 3, .ifCond .ne 7, 17, 0, 0, 0),
  (13, 1, .iconst 1, 0, 0, 0, 1),
  (14, 3, .goto 4, 18, 0, 0, 0),
  (17, 1, .iconst 0, 0, 0, 0, 0),
  (18, 1, .ireturn, 0, 0, 0, 0)]
def mJ0_isLatin1_aae02 : Mth := (yJ0_isLatin1_aae02, RJ0, cJ0_isLatin1_aae02, 1, (some .boolean), (0, 0, 0), (291, 292, 38, 293), [], tJ0_isLatin1_aae02, 0)
def tJ0_length_8abf5 : List En := [
  (0, 1, .aload_n 0, 0, 0, 0, 0),
  (1, 3, .getfield 9, 100, 0, 939, 0),
  (4, 1, .arraylength, 0, 0, 0, 0),
  (5, 1, .aload_n 0, 0, 0, 0, 0),
  (6, 3, .invokevirtual 335, 2, 0, 280, 0),
  (9, 1, .ishr, 0, 0, 0, 0),
  (10, 1, .ireturn, 0, 0, 0, 0)]
def mJ0_length_8abf5 : Mth := (yJ0_length_8abf5, RJ0, cJ0_length_8abf5, 1, (some .int), (1, 0, 0), (277, 278, 38, 279), [], tJ0_length_8abf5, 0)
def tJ1_charAt_3b067 : List En := [
  (0, 1, .iload_n 1, 0, 0, 0, 0),
  (1, 1, .aload_n 0, 0, 0, 0, 0),
  (2, 1, .arraylength, 0, 0, 0, 0),
  (3, 3, .invokestatic 9, 1, 0, 297, 0),
  (6, 1, .aload_n 0, 0, 0, 0, 0),
  (7, 1, .iload_n 1, 0, 0, 0, 0),
  (8, 1, .baload, 0, 0, 0, 0),
  (9, 3, .sipush 255, 0, 0, 0, 255),
  (12, 1, .iand, 0, 0, 0, 0),
  (13, 1, .i2c, 0, 0, 0, 0),
  (14, 1, .ireturn, 0, 0, 0, 0)]
def mJ1_charAt_3b067 : Mth := (yJ1_charAt_3b067, RJ1, cJ1_charAt_3b067, 2, (some .char), (2, 0, 0), (295, 0, 39, 296), [], tJ1_charAt_3b067, 2)
def tJ3_checkIndex_8e157 : List En := [
  (0, 1, .iload_n 0, 0, 0, 0, 0),
  (1, 3, .ifCond .lt 8, 9, 0, 0, 0),
  (4, 1, .iload_n 0, 0, 0, 0, 0),
  (5, 1, .iload_n 1, 0, 0, 0, 0),
  (6, 3, .if_icmp .lt 10, 16, 0, 0, 0),
  (9, 1, .aload_n 2, 0, 0, 0, 0),
  (10, 1, .iload_n 0, 0, 0, 0, 0),
  (11, 1, .iload_n 1, 0, 0, 0, 0),
  (12, 3, .invokestatic 95, 0, 9, 0, 0),
  (15, 1, .athrow, 0, 0, 0, 0),
  (16, 1, .iload_n 0, 0, 0, 0, 0),
  (17, 1, .ireturn, 0, 0, 0, 0)]
def mJ3_checkIndex_8e157 : Mth := (yJ3_checkIndex_8e157, RJ3, cJ3_checkIndex_8e157, 3, (some .int), (0, 0, 0), (303, 0, 40, 304), [], tJ3_checkIndex_8e157, 3)
def tJ6_bitCount_0f7a4 : List En := [
  (0, 1, .iload_n 0, 0, 0, 0, 0),
  (1, 1, .iload_n 0, 0, 0, 0, 0),
  (2, 1, .iconst 1, 0, 0, 0, 1),
  (3, 1, .iushr, 0, 0, 0, 0),
  (4, 3, .ldc_w 265, 0, 0, 465, 1431655765),
  (7, 1, .iand, 0, 0, 0, 0),
  (8, 1, .isub, 0, 0, 0, 0),
  (9, 1, .istore_n 0, 0, 0, 0, 0),
  (10, 1, .iload_n 0, 0, 0, 0, 0),
  (11, 3, .ldc_w 266, 0, 0, 466, 858993459),
  (14, 1, .iand, 0, 0, 0, 0),
  (15, 1, .iload_n 0, 0, 0, 0, 0),
  (16, 1, .iconst 2, 0, 0, 0, 2),
  (17, 1, .iushr, 0, 0, 0, 0),
  (18, 3, .ldc_w 266, 0, 0, 466, 858993459),
  (21, 1, .iand, 0, 0, 0, 0),
  (22, 1, .iadd, 0, 0, 0, 0),
  (23, 1, .istore_n 0, 0, 0, 0, 0),
  (24, 1, .iload_n 0, 0, 0, 0, 0),
  (25, 1, .iload_n 0, 0, 0, 0, 0),
  (26, 1, .iconst 4, 0, 0, 0, 4),
  (27, 1, .iushr, 0, 0, 0, 0),
  (28, 1, .iadd, 0, 0, 0, 0),
  (29, 3, .ldc_w 267, 0, 0, 467, 252645135),
  (32, 1, .iand, 0, 0, 0, 0),
  (33, 1, .istore_n 0, 0, 0, 0, 0),
  (34, 1, .iload_n 0, 0, 0, 0, 0),
  (35, 1, .iload_n 0, 0, 0, 0, 0),
  (36, 2, .bipush 8, 0, 0, 0, 8),
  (38, 1, .iushr, 0, 0, 0, 0),
  (39, 1, .iadd, 0, 0, 0, 0),
  (40, 1, .istore_n 0, 0, 0, 0, 0),
  (41, 1, .iload_n 0, 0, 0, 0, 0),
  (42, 1, .iload_n 0, 0, 0, 0, 0),
  (43, 2, .bipush 16, 0, 0, 0, 16),
  (45, 1, .iushr, 0, 0, 0, 0),
  (46, 1, .iadd, 0, 0, 0, 0),
  (47, 1, .istore_n 0, 0, 0, 0, 0),
  (48, 1, .iload_n 0, 0, 0, 0, 0),
  (49, 2, .bipush 63, 0, 0, 0, 63),
  (51, 1, .iand, 0, 0, 0, 0),
  (52, 1, .ireturn, 0, 0, 0, 0)]
def mJ6_bitCount_0f7a4 : Mth := (yJ6_bitCount_0f7a4, RJ6, cJ6_bitCount_0f7a4, 1, (some .int), (0, 0, 0), (463, 0, 44, 464), [], tJ6_bitCount_0f7a4, 1)
def tJ6_numberOfTrailingZeros_0f7a4 : List En := [
  (0, 1, .iload_n 0, 0, 0, 0, 0),
  (1, 1, .iconst (-1), 0, 0, 0, (-1)),
  (2, 1, .ixor, 0, 0, 0, 0),
  (3, 1, .iload_n 0, 0, 0, 0, 0),
  (4, 1, .iconst 1, 0, 0, 0, 1),
  (5, 1, .isub, 0, 0, 0, 0),
  (6, 1, .iand, 0, 0, 0, 0),
  (7, 1, .istore_n 0, 0, 0, 0, 0),
  (8, 1, .iload_n 0, 0, 0, 0, 0),
  (9, 3, .ifCond .gt 8, 17, 0, 0, 0),
  (12, 1, .iload_n 0, 0, 0, 0, 0),
  (13, 2, .bipush 32, 0, 0, 0, 32),
  (15, 1, .iand, 0, 0, 0, 0),
  (16, 1, .ireturn, 0, 0, 0, 0),
  (17, 1, .iconst 1, 0, 0, 0, 1),
  (18, 1, .istore_n 1, 0, 0, 0, 0),
  (19, 1, .iload_n 0, 0, 0, 0, 0),
  (20, 3, .ldc_w 264, 0, 0, 629, 65536),
  (23, 3, .if_icmp .le 11, 34, 0, 0, 0),
  (26, 3, .iinc 1 16, 0, 0, 0, 16),
  (29, 1, .iload_n 0, 0, 0, 0, 0),
  (30, 2, .bipush 16, 0, 0, 0, 16),
  (32, 1, .iushr, 0, 0, 0, 0),
  (33, 1, .istore_n 0, 0, 0, 0, 0),
  (34, 1, .iload_n 0, 0, 0, 0, 0),
  (35, 3, .sipush 256, 0, 0, 0, 256),
  (38, 3, .if_icmp .le 11, 49, 0, 0, 0),
  (41, 3, .iinc 1 8, 0, 0, 0, 8),
  (44, 1, .iload_n 0, 0, 0, 0, 0),
  (45, 2, .bipush 8, 0, 0, 0, 8),
  (47, 1, .iushr, 0, 0, 0, 0),
  (48, 1, .istore_n 0, 0, 0, 0, 0),
  (49, 1, .iload_n 0, 0, 0, 0, 0),
  (50, 2, .bipush 16, 0, 0, 0, 16),
  (52, 3, .if_icmp .le 10, 62, 0, 0, 0),
  (55, 3, .iinc 1 4, 0, 0, 0, 4),
  (58, 1, .iload_n 0, 0, 0, 0, 0),
  (59, 1, .iconst 4, 0, 0, 0, 4),
  (60, 1, .iushr, 0, 0, 0, 0),
  (61, 1, .istore_n 0, 0, 0, 0, 0),
  (62, 1, .iload_n 0, 0, 0, 0, 0),
  (63, 1, .iconst 4, 0, 0, 0, 4),
  (64, 3, .if_icmp .le 10, 74, 0, 0, 0),
  (67, 3, .iinc 1 2, 0, 0, 0, 2),
  (70, 1, .iload_n 0, 0, 0, 0, 0),
  (71, 1, .iconst 2, 0, 0, 0, 2),
  (72, 1, .iushr, 0, 0, 0, 0),
  (73, 1, .istore_n 0, 0, 0, 0, 0),
  (74, 1, .iload_n 1, 0, 0, 0, 0),
  (75, 1, .iload_n 0, 0, 0, 0, 0),
  (76, 1, .iconst 1, 0, 0, 0, 1),
  (77, 1, .iushr, 0, 0, 0, 0),
  (78, 1, .iadd, 0, 0, 0, 0),
  (79, 1, .ireturn, 0, 0, 0, 0)]
def mJ6_numberOfTrailingZeros_0f7a4 : Mth := (yJ6_numberOfTrailingZeros_0f7a4, RJ6, cJ6_numberOfTrailingZeros_0f7a4, 2, (some .int), (0, 0, 0), (627, 0, 44, 628), [], tJ6_numberOfTrailingZeros_0f7a4, 1)
def tJ6_signum_0f7a4 : List En := [
  (0, 1, .iload_n 0, 0, 0, 0, 0),
  (1, 2, .bipush 31, 0, 0, 0, 31),
  (3, 1, .ishr, 0, 0, 0, 0),
  (4, 1, .iload_n 0, 0, 0, 0, 0),
  (5, 1, .ineg, 0, 0, 0, 0),
  (6, 2, .bipush 31, 0, 0, 0, 31),
  (8, 1, .iushr, 0, 0, 0, 0),
  (9, 1, .ior, 0, 0, 0, 0),
  (10, 1, .ireturn, 0, 0, 0, 0)]
def mJ6_signum_0f7a4 : Mth := (yJ6_signum_0f7a4, RJ6, cJ6_signum_0f7a4, 1, (some .int), (0, 0, 0), (423, 0, 44, 424), [], tJ6_signum_0f7a4, 1)
def tX0_init : List En := [
  (0, 1, .aload_n 0, 0, 0, 0, 0),
  (1, 3, .invokespecial 3, 0, 2, 102, 0),
  (4, 1, .aload_n 0, 0, 0, 0, 0),
  (5, 2, .bipush 8, 0, 0, 0, 8),
  (7, 3, .anewarray 9, 0, 0, 103, 0),
  (10, 3, .putfield 11, 0, 0, 106, 0),
  (13, 1, .iconst 0, 0, 0, 0, 0),
  (14, 1, .istore_n 1, 0, 0, 0, 0),
  (15, 1, .iload_n 1, 0, 0, 0, 0),
  (16, 2, .bipush 8, 0, 0, 0, 8),
  (18, 3, .if_icmp .ge 22, 40, 0, 0, 0),
  (21, 1, .aload_n 0, 0, 0, 0, 0),
  (22, 3, .getfield 11, 0, 0, 106, 0),
  (25, 1, .iload_n 1, 0, 0, 0, 0),
  (26, 3, .new 9, 3, 54, 103, 32),
  (29, 1, .dup, 0, 0, 0, 0),
  (30, 3, .invokespecial 17, 52, 0, 105, 0),
  (33, 1, .aastore, 0, 0, 0, 0),
  (34, 3, .iinc 1 1, 0, 0, 0, 1),
  (37, 3, .goto (-22), 15, 0, 0, 0),
  (40, 1, .return_, 0, 0, 0, 0)]
def mX0_init : Mth := (yX0_init, RX0, cX0_init, 2, none, (2, 100, 1000), (100, 0, 33, 101), [15], tX0_init, 0)
def tX0_remember : List En := [
  (0, 1, .aload_n 0, 0, 0, 0, 0),
  (1, 3, .getfield 11, 0, 0, 106, 0),
  (4, 1, .aload_n 0, 0, 0, 0, 0),
  (5, 3, .getfield 18, 0, 2, 109, 0),
  (8, 1, .aaload, 0, 0, 0, 0),
  (9, 1, .aload_n 1, 0, 0, 0, 0),
  (10, 3, .invokevirtual 22, 42, 0, 354, 0),
  (13, 1, .aload_n 0, 0, 0, 0, 0),
  (14, 1, .aload_n 0, 0, 0, 0, 0),
  (15, 3, .getfield 18, 0, 2, 109, 0),
  (18, 2, .bipush 7, 0, 0, 0, 7),
  (20, 3, .if_icmp .ne 7, 27, 0, 0, 0),
  (23, 1, .iconst 0, 0, 0, 0, 0),
  (24, 3, .goto 9, 33, 0, 0, 0),
  (27, 1, .aload_n 0, 0, 0, 0, 0),
  (28, 3, .getfield 18, 0, 2, 109, 0),
  (31, 1, .iconst 1, 0, 0, 0, 1),
  (32, 1, .iadd, 0, 0, 0, 0),
  (33, 3, .putfield 18, 0, 2, 109, 0),
  (36, 1, .aload_n 0, 0, 0, 0, 0),
  (37, 1, .aload_n 0, 0, 0, 0, 0),
  (38, 3, .getfield 26, 0, 1, 107, 0),
  (41, 1, .iconst 1, 0, 0, 0, 1),
  (42, 1, .iadd, 0, 0, 0, 0),
  (43, 2, .bipush 8, 0, 0, 0, 8),
  (45, 3, .invokestatic 29, 0, 3, 361, 0),
  (48, 3, .putfield 26, 0, 1, 107, 0),
  (51, 1, .return_, 0, 0, 0, 0)]
def mX0_remember : Mth := (yX0_remember, RX0, cX0_remember, 2, none, (2, 0, 0), (351, 352, 33, 353), [], tX0_remember, 1)
def tX0_restore : List En := [
  (0, 1, .aload_n 0, 0, 0, 0, 0),
  (1, 3, .getfield 26, 0, 1, 107, 0),
  (4, 3, .ifCond .ne 5, 9, 0, 0, 0),
  (7, 1, .iconst 0, 0, 0, 0, 0),
  (8, 1, .ireturn, 0, 0, 0, 0),
  (9, 1, .aload_n 0, 0, 0, 0, 0),
  (10, 1, .aload_n 0, 0, 0, 0, 0),
  (11, 3, .getfield 18, 0, 2, 109, 0),
  (14, 3, .ifCond .ne 8, 22, 0, 0, 0),
  (17, 2, .bipush 7, 0, 0, 0, 7),
  (19, 3, .goto 9, 28, 0, 0, 0),
  (22, 1, .aload_n 0, 0, 0, 0, 0),
  (23, 3, .getfield 18, 0, 2, 109, 0),
  (26, 1, .iconst 1, 0, 0, 0, 1),
  (27, 1, .isub, 0, 0, 0, 0),
  (28, 3, .putfield 18, 0, 2, 109, 0),
  (31, 1, .aload_n 0, 0, 0, 0, 0),
  (32, 1, .dup, 0, 0, 0, 0),
  (33, 3, .getfield 26, 0, 1, 107, 0),
  (36, 1, .iconst 1, 0, 0, 0, 1),
  (37, 1, .isub, 0, 0, 0, 0),
  (38, 3, .putfield 26, 0, 1, 107, 0),
  (41, 1, .aload_n 1, 0, 0, 0, 0),
  (42, 1, .aload_n 0, 0, 0, 0, 0),
  (43, 3, .getfield 11, 0, 0, 106, 0),
  (46, 1, .aload_n 0, 0, 0, 0, 0),
  (47, 3, .getfield 18, 0, 2, 109, 0),
  (50, 1, .aaload, 0, 0, 0, 0),
  (51, 3, .invokevirtual 22, 42, 0, 354, 0),
  (54, 1, .iconst 1, 0, 0, 0, 1),
  (55, 1, .ireturn, 0, 0, 0, 0)]
def mX0_restore : Mth := (yX0_restore, RX0, cX0_restore, 2, (some .boolean), (2, 0, 0), (511, 512, 33, 513), [], tX0_restore, 1)
def tX1_cheapestOf : List En := [
  (0, 2, .bipush (-9), 0, 0, 0, (-9)),
  (2, 2, .istore 4, 0, 0, 0, 0),
  (4, 2, .bipush 100, 0, 0, 0, 100),
  (6, 2, .istore 5, 0, 0, 0, 0),
  (8, 1, .iconst 0, 0, 0, 0, 0),
  (9, 2, .istore 6, 0, 0, 0, 0),
  (11, 2, .iload 6, 0, 0, 0, 0),
  (13, 1, .aload_n 0, 0, 0, 0, 0),
  (14, 3, .getfield 45, 1, 8, 163, 0),
  (17, 3, .if_icmp .ge 46, 63, 0, 0, 0),
  (20, 1, .iload_n 2, 0, 0, 0, 0),
  (21, 2, .iload 6, 0, 0, 0, 0),
  (23, 1, .ishr, 0, 0, 0, 0),
  (24, 1, .iconst 1, 0, 0, 0, 1),
  (25, 1, .iand, 0, 0, 0, 0),
  (26, 1, .iconst 1, 0, 0, 0, 1),
  (27, 3, .if_icmp .ne 30, 57, 0, 0, 0),
  (30, 1, .aload_n 0, 0, 0, 0, 0),
  (31, 1, .iload_n 1, 0, 0, 0, 0),
  (32, 2, .iload 6, 0, 0, 0, 0),
  (34, 1, .iload_n 3, 0, 0, 0, 0),
  (35, 3, .invokevirtual 93, 15, 0, 484, 0),
  (38, 2, .iload 5, 0, 0, 0, 0),
  (40, 3, .if_icmp .ge 17, 57, 0, 0, 0),
  (43, 2, .iload 6, 0, 0, 0, 0),
  (45, 2, .istore 4, 0, 0, 0, 0),
  (47, 1, .aload_n 0, 0, 0, 0, 0),
  (48, 1, .iload_n 1, 0, 0, 0, 0),
  (49, 2, .iload 6, 0, 0, 0, 0),
  (51, 1, .iload_n 3, 0, 0, 0, 0),
  (52, 3, .invokevirtual 93, 15, 0, 484, 0),
  (55, 2, .istore 5, 0, 0, 0, 0),
  (57, 3, .iinc 6 1, 0, 0, 0, 1),
  (60, 3, .goto (-49), 11, 0, 0, 0),
  (63, 2, .iload 4, 0, 0, 0, 0),
  (65, 1, .ireturn, 0, 0, 0, 0)]
def mX1_cheapestOf : Mth := (yX1_cheapestOf, RX1, cX1_cheapestOf, 7, (some .int), (2, 0, 0), (481, 482, 35, 483), [11], tX1_cheapestOf, 3)
def tX1_cheapestSet : List En := [
  (0, 2, .bipush (-9), 0, 0, 0, (-9)),
  (2, 1, .istore_n 1, 0, 0, 0, 0),
  (3, 1, .fconst 0, 0, 0, 0, 0),
  (4, 1, .fstore_n 2, 0, 0, 0, 0),
  (5, 1, .iconst 0, 0, 0, 0, 0),
  (6, 1, .istore_n 3, 0, 0, 0, 0),
  (7, 1, .iload_n 3, 0, 0, 0, 0),
  (8, 1, .iconst 1, 0, 0, 0, 1),
  (9, 1, .aload_n 0, 0, 0, 0, 0),
  (10, 3, .getfield 45, 1, 8, 163, 0),
  (13, 1, .ishl, 0, 0, 0, 0),
  (14, 3, .if_icmp .ge 42, 56, 0, 0, 0),
  (17, 1, .aload_n 0, 0, 0, 0, 0),
  (18, 1, .iload_n 3, 0, 0, 0, 0),
  (19, 3, .invokevirtual 114, 16, 0, 576, 0),
  (22, 2, .fstore 4, 0, 0, 0, 0),
  (24, 1, .iload_n 1, 0, 0, 0, 0),
  (25, 2, .bipush (-9), 0, 0, 0, (-9)),
  (27, 3, .if_icmp .eq 10, 37, 0, 0, 0),
  (30, 2, .fload 4, 0, 0, 0, 0),
  (32, 1, .fload_n 2, 0, 0, 0, 0),
  (33, 1, .fcmp .g, 0, 0, 0, 0),
  (34, 3, .ifCond .ge 16, 50, 0, 0, 0),
  (37, 1, .aload_n 0, 0, 0, 0, 0),
  (38, 1, .iload_n 3, 0, 0, 0, 0),
  (39, 3, .invokevirtual 68, 22, 0, 468, 0),
  (42, 3, .ifCond .eq 8, 50, 0, 0, 0),
  (45, 1, .iload_n 3, 0, 0, 0, 0),
  (46, 1, .istore_n 1, 0, 0, 0, 0),
  (47, 2, .fload 4, 0, 0, 0, 0),
  (49, 1, .fstore_n 2, 0, 0, 0, 0),
  (50, 3, .iinc 3 1, 0, 0, 0, 1),
  (53, 3, .goto (-46), 7, 0, 0, 0),
  (56, 1, .iload_n 1, 0, 0, 0, 0),
  (57, 1, .ireturn, 0, 0, 0, 0)]
def mX1_cheapestSet : Mth := (yX1_cheapestSet, RX1, cX1_cheapestSet, 5, (some .int), (1, 0, 0), (573, 574, 35, 575), [7, 37, 50], tX1_cheapestSet, 0)
def tX1_cutsFrom : List En := [
  (0, 1, .iload_n 2, 0, 0, 0, 0),
  (1, 2, .bipush (-9), 0, 0, 0, (-9)),
  (3, 3, .if_icmp .ne 6, 9, 0, 0, 0),
  (6, 2, .bipush 100, 0, 0, 0, 100),
  (8, 1, .ireturn, 0, 0, 0, 0),
  (9, 1, .iload_n 3, 0, 0, 0, 0),
  (10, 2, .bipush (-9), 0, 0, 0, (-9)),
  (12, 3, .if_icmp .eq 8, 20, 0, 0, 0),
  (15, 1, .iload_n 3, 0, 0, 0, 0),
  (16, 1, .iload_n 2, 0, 0, 0, 0),
  (17, 3, .if_icmp .ne 7, 24, 0, 0, 0),
  (20, 1, .iconst 0, 0, 0, 0, 0),
  (21, 3, .goto 4, 25, 0, 0, 0),
  (24, 1, .iconst 1, 0, 0, 0, 1),
  (25, 2, .istore 4, 0, 0, 0, 0),
  (27, 2, .iload 4, 0, 0, 0, 0),
  (29, 1, .aload_n 0, 0, 0, 0, 0),
  (30, 3, .getfield 20, 1, 2, 156, 0),
  (33, 1, .iload_n 1, 0, 0, 0, 0),
  (34, 1, .aaload, 0, 0, 0, 0),
  (35, 1, .iload_n 2, 0, 0, 0, 0),
  (36, 1, .iaload, 0, 0, 0, 0),
  (37, 1, .iadd, 0, 0, 0, 0),
  (38, 2, .bipush 100, 0, 0, 0, 100),
  (40, 3, .invokestatic 96, 0, 3, 488, 0),
  (43, 1, .ireturn, 0, 0, 0, 0)]
def mX1_cutsFrom : Mth := (yX1_cutsFrom, RX1, cX1_cutsFrom, 5, (some .int), (1, 0, 0), (485, 486, 35, 487), [20, 25], tX1_cutsFrom, 3)
def tX1_dear : List En := [
  (0, 1, .fconst 0, 0, 0, 0, 0),
  (1, 1, .fstore_n 2, 0, 0, 0, 0),
  (2, 1, .iconst 0, 0, 0, 0, 0),
  (3, 1, .istore_n 3, 0, 0, 0, 0),
  (4, 1, .iload_n 3, 0, 0, 0, 0),
  (5, 1, .aload_n 0, 0, 0, 0, 0),
  (6, 3, .getfield 45, 1, 8, 163, 0),
  (9, 3, .if_icmp .ge 31, 40, 0, 0, 0),
  (12, 1, .iload_n 1, 0, 0, 0, 0),
  (13, 1, .iload_n 3, 0, 0, 0, 0),
  (14, 1, .ishr, 0, 0, 0, 0),
  (15, 1, .iconst 1, 0, 0, 0, 1),
  (16, 1, .iand, 0, 0, 0, 0),
  (17, 1, .iconst 1, 0, 0, 0, 1),
  (18, 3, .if_icmp .ne 16, 34, 0, 0, 0),
  (21, 1, .fload_n 2, 0, 0, 0, 0),
  (22, 1, .aload_n 0, 0, 0, 0, 0),
  (23, 3, .getfield 26, 1, 4, 158, 0),
  (26, 1, .iload_n 3, 0, 0, 0, 0),
  (27, 1, .iaload, 0, 0, 0, 0),
  (28, 1, .i2f, 0, 0, 0, 0),
  (29, 2, .ldc 113, 1077936128, 1, 580, 0),
  (31, 1, .fdiv, 0, 0, 0, 0),
  (32, 1, .fadd, 0, 0, 0, 0),
  (33, 1, .fstore_n 2, 0, 0, 0, 0),
  (34, 3, .iinc 3 1, 0, 0, 0, 1),
  (37, 3, .goto (-33), 4, 0, 0, 0),
  (40, 1, .fload_n 2, 0, 0, 0, 0),
  (41, 1, .freturn, 0, 0, 0, 0)]
def mX1_dear : Mth := (yX1_dear, RX1, cX1_dear, 4, (some .float), (0, 0, 0), (577, 578, 35, 579), [4], tX1_dear, 1)
def tX1_differsFrom : List En := [
  (0, 1, .iconst 0, 0, 0, 0, 0),
  (1, 1, .istore_n 2, 0, 0, 0, 0),
  (2, 1, .iconst 0, 0, 0, 0, 0),
  (3, 1, .istore_n 3, 0, 0, 0, 0),
  (4, 1, .iload_n 3, 0, 0, 0, 0),
  (5, 1, .aload_n 0, 0, 0, 0, 0),
  (6, 3, .getfield 41, 1, 7, 162, 0),
  (9, 3, .if_icmp .ge 27, 36, 0, 0, 0),
  (12, 1, .aload_n 1, 0, 0, 0, 0),
  (13, 3, .getfield 110, 3, 2, 71, 0),
  (16, 1, .iload_n 3, 0, 0, 0, 0),
  (17, 1, .iaload, 0, 0, 0, 0),
  (18, 1, .aload_n 0, 0, 0, 0, 0),
  (19, 3, .getfield 32, 1, 6, 160, 0),
  (22, 1, .iload_n 3, 0, 0, 0, 0),
  (23, 1, .iaload, 0, 0, 0, 0),
  (24, 3, .if_icmp .eq 6, 30, 0, 0, 0),
  (27, 3, .iinc 2 1, 0, 0, 0, 1),
  (30, 3, .iinc 3 1, 0, 0, 0, 1),
  (33, 3, .goto (-29), 4, 0, 0, 0),
  (36, 1, .iload_n 2, 0, 0, 0, 0),
  (37, 1, .ireturn, 0, 0, 0, 0)]
def mX1_differsFrom : Mth := (yX1_differsFrom, RX1, cX1_differsFrom, 4, (some .int), (0, 0, 0), (499, 500, 35, 501), [4], tX1_differsFrom, 1)
def tX1_fewestBehind : List En := [
  (0, 1, .iload_n 1, 0, 0, 0, 0),
  (1, 1, .aload_n 0, 0, 0, 0, 0),
  (2, 3, .getfield 41, 1, 7, 162, 0),
  (5, 1, .iconst 1, 0, 0, 0, 1),
  (6, 1, .isub, 0, 0, 0, 0),
  (7, 3, .if_icmp .ne 5, 12, 0, 0, 0),
  (10, 1, .iconst 0, 0, 0, 0, 0),
  (11, 1, .ireturn, 0, 0, 0, 0),
  (12, 1, .aload_n 0, 0, 0, 0, 0),
  (13, 1, .iload_n 1, 0, 0, 0, 0),
  (14, 1, .iconst 1, 0, 0, 0, 1),
  (15, 1, .iadd, 0, 0, 0, 0),
  (16, 1, .aload_n 0, 0, 0, 0, 0),
  (17, 3, .getfield 17, 1, 1, 155, 0),
  (20, 1, .iload_n 1, 0, 0, 0, 0),
  (21, 1, .aaload, 0, 0, 0, 0),
  (22, 1, .iload_n 2, 0, 0, 0, 0),
  (23, 1, .iaload, 0, 0, 0, 0),
  (24, 1, .iload_n 3, 0, 0, 0, 0),
  (25, 1, .iand, 0, 0, 0, 0),
  (26, 1, .iload_n 2, 0, 0, 0, 0),
  (27, 3, .invokevirtual 90, 13, 0, 480, 0),
  (30, 2, .istore 4, 0, 0, 0, 0),
  (32, 1, .aload_n 0, 0, 0, 0, 0),
  (33, 1, .iload_n 1, 0, 0, 0, 0),
  (34, 1, .iconst 1, 0, 0, 0, 1),
  (35, 1, .iadd, 0, 0, 0, 0),
  (36, 2, .iload 4, 0, 0, 0, 0),
  (38, 1, .iload_n 2, 0, 0, 0, 0),
  (39, 3, .invokevirtual 93, 15, 0, 484, 0),
  (42, 1, .ireturn, 0, 0, 0, 0)]
def mX1_fewestBehind : Mth := (yX1_fewestBehind, RX1, cX1_fewestBehind, 5, (some .int), (3, 0, 0), (477, 478, 35, 479), [], tX1_fewestBehind, 3)
def tX1_findBest : List En := [
  (0, 1, .iconst 0, 0, 0, 0, 0),
  (1, 1, .istore_n 1, 0, 0, 0, 0),
  (2, 1, .iload_n 1, 0, 0, 0, 0),
  (3, 1, .aload_n 0, 0, 0, 0, 0),
  (4, 3, .getfield 45, 1, 8, 163, 0),
  (7, 3, .if_icmp .gt 96, 103, 0, 0, 0),
  (10, 1, .iconst 0, 0, 0, 0, 0),
  (11, 1, .istore_n 2, 0, 0, 0, 0),
  (12, 1, .iconst 0, 0, 0, 0, 0),
  (13, 1, .istore_n 3, 0, 0, 0, 0),
  (14, 1, .iload_n 3, 0, 0, 0, 0),
  (15, 1, .iconst 1, 0, 0, 0, 1),
  (16, 1, .aload_n 0, 0, 0, 0, 0),
  (17, 3, .getfield 45, 1, 8, 163, 0),
  (20, 1, .ishl, 0, 0, 0, 0),
  (21, 3, .if_icmp .ge 70, 91, 0, 0, 0),
  (24, 1, .iload_n 3, 0, 0, 0, 0),
  (25, 3, .invokestatic 63, 7, 0, 462, 0),
  (28, 1, .iload_n 1, 0, 0, 0, 0),
  (29, 3, .if_icmp .ne 56, 85, 0, 0, 0),
  (32, 1, .aload_n 0, 0, 0, 0, 0),
  (33, 1, .iload_n 3, 0, 0, 0, 0),
  (34, 3, .invokevirtual 68, 22, 0, 468, 0),
  (37, 3, .ifCond .eq 48, 85, 0, 0, 0),
  (40, 1, .aload_n 0, 0, 0, 0, 0),
  (41, 1, .iload_n 3, 0, 0, 0, 0),
  (42, 3, .invokevirtual 72, 25, 0, 472, 0),
  (45, 2, .istore 4, 0, 0, 0, 0),
  (47, 1, .iload_n 2, 0, 0, 0, 0),
  (48, 3, .ifCond .eq 28, 76, 0, 0, 0),
  (51, 2, .iload 4, 0, 0, 0, 0),
  (53, 1, .aload_n 0, 0, 0, 0, 0),
  (54, 3, .getfield 75, 1, 10, 166, 0),
  (57, 3, .if_icmp .lt 19, 76, 0, 0, 0),
  (60, 2, .iload 4, 0, 0, 0, 0),
  (62, 1, .aload_n 0, 0, 0, 0, 0),
  (63, 3, .getfield 75, 1, 10, 166, 0),
  (66, 3, .if_icmp .ne 17, 83, 0, 0, 0),
  (69, 1, .aload_n 0, 0, 0, 0, 0),
  (70, 3, .invokevirtual 78, 28, 0, 489, 0),
  (73, 3, .ifCond .eq 10, 83, 0, 0, 0),
  (76, 1, .aload_n 0, 0, 0, 0, 0),
  (77, 1, .iload_n 1, 0, 0, 0, 0),
  (78, 2, .iload 4, 0, 0, 0, 0),
  (80, 3, .invokevirtual 82, 27, 0, 493, 0),
  (83, 1, .iconst 1, 0, 0, 0, 1),
  (84, 1, .istore_n 2, 0, 0, 0, 0),
  (85, 3, .iinc 3 1, 0, 0, 0, 1),
  (88, 3, .goto (-74), 14, 0, 0, 0),
  (91, 1, .iload_n 2, 0, 0, 0, 0),
  (92, 3, .ifCond .eq 5, 97, 0, 0, 0),
  (95, 1, .iconst 1, 0, 0, 0, 1),
  (96, 1, .ireturn, 0, 0, 0, 0),
  (97, 3, .iinc 1 1, 0, 0, 0, 1),
  (100, 3, .goto (-98), 2, 0, 0, 0),
  (103, 1, .iconst 0, 0, 0, 0, 0),
  (104, 1, .ireturn, 0, 0, 0, 0)]
def mX1_findBest : Mth := (yX1_findBest, RX1, cX1_findBest, 5, (some .boolean), (5, 0, 0), (459, 460, 35, 461), [2, 14, 76, 83, 85], tX1_findBest, 0)
def tX1_followersOf : List En := [
  (0, 1, .aload_n 0, 0, 0, 0, 0),
  (1, 3, .getfield 23, 1, 3, 157, 0),
  (4, 1, .iload_n 3, 0, 0, 0, 0),
  (5, 1, .iaload, 0, 0, 0, 0),
  (6, 1, .iconst 1, 0, 0, 0, 1),
  (7, 1, .iload_n 3, 0, 0, 0, 0),
  (8, 1, .ishl, 0, 0, 0, 0),
  (9, 1, .ior, 0, 0, 0, 0),
  (10, 1, .aload_n 0, 0, 0, 0, 0),
  (11, 3, .getfield 9, 1, 0, 154, 0),
  (14, 1, .iload_n 2, 0, 0, 0, 0),
  (15, 1, .iconst 1, 0, 0, 0, 1),
  (16, 1, .iadd, 0, 0, 0, 0),
  (17, 1, .iaload, 0, 0, 0, 0),
  (18, 1, .iand, 0, 0, 0, 0),
  (19, 2, .istore 4, 0, 0, 0, 0),
  (21, 1, .aload_n 1, 0, 0, 0, 0),
  (22, 1, .iload_n 2, 0, 0, 0, 0),
  (23, 1, .iload_n 3, 0, 0, 0, 0),
  (24, 3, .invokevirtual 59, 54, 0, 454, 0),
  (27, 3, .ifCond .ne 6, 33, 0, 0, 0),
  (30, 2, .iload 4, 0, 0, 0, 0),
  (32, 1, .ireturn, 0, 0, 0, 0),
  (33, 1, .iconst 0, 0, 0, 0, 0),
  (34, 2, .istore 5, 0, 0, 0, 0),
  (36, 2, .iload 5, 0, 0, 0, 0),
  (38, 1, .aload_n 0, 0, 0, 0, 0),
  (39, 3, .getfield 45, 1, 8, 163, 0),
  (42, 3, .if_icmp .ge 32, 74, 0, 0, 0),
  (45, 1, .aload_n 1, 0, 0, 0, 0),
  (46, 1, .iload_n 2, 0, 0, 0, 0),
  (47, 1, .iconst 1, 0, 0, 0, 1),
  (48, 1, .iadd, 0, 0, 0, 0),
  (49, 2, .iload 5, 0, 0, 0, 0),
  (51, 3, .invokevirtual 59, 54, 0, 454, 0),
  (54, 3, .ifCond .eq 14, 68, 0, 0, 0),
  (57, 2, .iload 4, 0, 0, 0, 0),
  (59, 1, .iconst 1, 0, 0, 0, 1),
  (60, 2, .iload 5, 0, 0, 0, 0),
  (62, 1, .ishl, 0, 0, 0, 0),
  (63, 1, .iconst (-1), 0, 0, 0, (-1)),
  (64, 1, .ixor, 0, 0, 0, 0),
  (65, 1, .iand, 0, 0, 0, 0),
  (66, 2, .istore 4, 0, 0, 0, 0),
  (68, 3, .iinc 5 1, 0, 0, 0, 1),
  (71, 3, .goto (-35), 36, 0, 0, 0),
  (74, 2, .iload 4, 0, 0, 0, 0),
  (76, 1, .ireturn, 0, 0, 0, 0)]
def mX1_followersOf : Mth := (yX1_followersOf, RX1, cX1_followersOf, 6, (some .int), (2, 0, 0), (451, 452, 35, 453), [36], tX1_followersOf, 3)
def tX1_giveBestTo : List En := [
  (0, 1, .aload_n 0, 0, 0, 0, 0),
  (1, 3, .getfield 32, 1, 6, 160, 0),
  (4, 1, .iconst 0, 0, 0, 0, 0),
  (5, 1, .aload_n 1, 0, 0, 0, 0),
  (6, 3, .getfield 110, 3, 2, 71, 0),
  (9, 1, .iconst 0, 0, 0, 0, 0),
  (10, 1, .aload_n 0, 0, 0, 0, 0),
  (11, 3, .getfield 41, 1, 7, 162, 0),
  (14, 3, .invokestatic 104, 0, 1, 497, 0),
  (17, 1, .return_, 0, 0, 0, 0)]
def mX1_giveBestTo : Mth := (yX1_giveBestTo, RX1, cX1_giveBestTo, 2, none, (1, 0, 0), (503, 504, 35, 505), [], tX1_giveBestTo, 1)
def tX1_hasWholeEdit : List En := [
  (0, 1, .aload_n 0, 0, 0, 0, 0),
  (1, 3, .getfield 41, 1, 7, 162, 0),
  (4, 3, .ifCond .ne 5, 9, 0, 0, 0),
  (7, 1, .iconst 1, 0, 0, 0, 1),
  (8, 1, .ireturn, 0, 0, 0, 0),
  (9, 1, .aload_n 0, 0, 0, 0, 0),
  (10, 3, .getfield 9, 1, 0, 154, 0),
  (13, 1, .iconst 0, 0, 0, 0, 0),
  (14, 1, .iaload, 0, 0, 0, 0),
  (15, 1, .iload_n 1, 0, 0, 0, 0),
  (16, 1, .iand, 0, 0, 0, 0),
  (17, 1, .istore_n 2, 0, 0, 0, 0),
  (18, 1, .iconst 0, 0, 0, 0, 0),
  (19, 1, .istore_n 3, 0, 0, 0, 0),
  (20, 1, .iload_n 3, 0, 0, 0, 0),
  (21, 1, .iconst 1, 0, 0, 0, 1),
  (22, 1, .iadd, 0, 0, 0, 0),
  (23, 1, .aload_n 0, 0, 0, 0, 0),
  (24, 3, .getfield 41, 1, 7, 162, 0),
  (27, 3, .if_icmp .ge 59, 86, 0, 0, 0),
  (30, 1, .iconst 0, 0, 0, 0, 0),
  (31, 2, .istore 4, 0, 0, 0, 0),
  (33, 1, .iconst 0, 0, 0, 0, 0),
  (34, 2, .istore 5, 0, 0, 0, 0),
  (36, 2, .iload 5, 0, 0, 0, 0),
  (38, 1, .aload_n 0, 0, 0, 0, 0),
  (39, 3, .getfield 45, 1, 8, 163, 0),
  (42, 3, .if_icmp .ge 33, 75, 0, 0, 0),
  (45, 1, .iload_n 2, 0, 0, 0, 0),
  (46, 2, .iload 5, 0, 0, 0, 0),
  (48, 1, .ishr, 0, 0, 0, 0),
  (49, 1, .iconst 1, 0, 0, 0, 1),
  (50, 1, .iand, 0, 0, 0, 0),
  (51, 1, .iconst 1, 0, 0, 0, 1),
  (52, 3, .if_icmp .ne 17, 69, 0, 0, 0),
  (55, 2, .iload 4, 0, 0, 0, 0),
  (57, 1, .aload_n 0, 0, 0, 0, 0),
  (58, 3, .getfield 17, 1, 1, 155, 0),
  (61, 1, .iload_n 3, 0, 0, 0, 0),
  (62, 1, .aaload, 0, 0, 0, 0),
  (63, 2, .iload 5, 0, 0, 0, 0),
  (65, 1, .iaload, 0, 0, 0, 0),
  (66, 1, .ior, 0, 0, 0, 0),
  (67, 2, .istore 4, 0, 0, 0, 0),
  (69, 3, .iinc 5 1, 0, 0, 0, 1),
  (72, 3, .goto (-36), 36, 0, 0, 0),
  (75, 2, .iload 4, 0, 0, 0, 0),
  (77, 1, .iload_n 1, 0, 0, 0, 0),
  (78, 1, .iand, 0, 0, 0, 0),
  (79, 1, .istore_n 2, 0, 0, 0, 0),
  (80, 3, .iinc 3 1, 0, 0, 0, 1),
  (83, 3, .goto (-63), 20, 0, 0, 0),
  (86, 1, .iload_n 2, 0, 0, 0, 0),
  (87, 3, .ifCond .eq 7, 94, 0, 0, 0),
  (90, 1, .iconst 1, 0, 0, 0, 1),
  (91, 3, .goto 4, 95, 0, 0, 0),
  (94, 1, .iconst 0, 0, 0, 0, 0),
  (95, 1, .ireturn, 0, 0, 0, 0)]
def mX1_hasWholeEdit : Mth := (yX1_hasWholeEdit, RX1, cX1_hasWholeEdit, 6, (some .boolean), (0, 0, 0), (469, 470, 35, 471), [20, 36], tX1_hasWholeEdit, 1)
def tX1_init : List En := [
  (0, 1, .aload_n 0, 0, 0, 0, 0),
  (1, 3, .invokespecial 3, 0, 2, 151, 0),
  (4, 1, .aload_n 0, 0, 0, 0, 0),
  (5, 2, .bipush 8, 0, 0, 0, 8),
  (7, 2, .newarray .int, 0, 0, 0, 0),
  (9, 3, .putfield 9, 1, 0, 154, 0),
  (12, 1, .aload_n 0, 0, 0, 0, 0),
  (13, 2, .bipush 8, 0, 0, 0, 8),
  (15, 2, .bipush 6, 0, 0, 0, 6),
  (17, 4, .multianewarray 15 2, 0, 0, 152, 0),
  (21, 3, .putfield 17, 1, 1, 155, 0),
  (24, 1, .aload_n 0, 0, 0, 0, 0),
  (25, 2, .bipush 8, 0, 0, 0, 8),
  (27, 2, .bipush 6, 0, 0, 0, 6),
  (29, 4, .multianewarray 15 2, 0, 0, 152, 0),
  (33, 3, .putfield 20, 1, 2, 156, 0),
  (36, 1, .aload_n 0, 0, 0, 0, 0),
  (37, 2, .bipush 6, 0, 0, 0, 6),
  (39, 2, .newarray .int, 0, 0, 0, 0),
  (41, 3, .putfield 23, 1, 3, 157, 0),
  (44, 1, .aload_n 0, 0, 0, 0, 0),
  (45, 2, .bipush 6, 0, 0, 0, 6),
  (47, 2, .newarray .int, 0, 0, 0, 0),
  (49, 3, .putfield 26, 1, 4, 158, 0),
  (52, 1, .aload_n 0, 0, 0, 0, 0),
  (53, 2, .bipush 8, 0, 0, 0, 8),
  (55, 2, .newarray .int, 0, 0, 0, 0),
  (57, 3, .putfield 29, 1, 5, 159, 0),
  (60, 1, .aload_n 0, 0, 0, 0, 0),
  (61, 2, .bipush 8, 0, 0, 0, 8),
  (63, 2, .newarray .int, 0, 0, 0, 0),
  (65, 3, .putfield 32, 1, 6, 160, 0),
  (68, 1, .return_, 0, 0, 0, 0)]
def mX1_init : Mth := (yX1_init, RX1, cX1_init, 1, none, (1, 30, 200), (149, 0, 35, 150), [], tX1_init, 0)
def tX1_neededShots : List En := [
  (0, 1, .iconst 1, 0, 0, 0, 1),
  (1, 1, .aload_n 0, 0, 0, 0, 0),
  (2, 3, .getfield 45, 1, 8, 163, 0),
  (5, 1, .ishl, 0, 0, 0, 0),
  (6, 1, .iconst 1, 0, 0, 0, 1),
  (7, 1, .isub, 0, 0, 0, 0),
  (8, 1, .istore_n 1, 0, 0, 0, 0),
  (9, 1, .iconst 0, 0, 0, 0, 0),
  (10, 1, .istore_n 2, 0, 0, 0, 0),
  (11, 1, .aload_n 0, 0, 0, 0, 0),
  (12, 1, .iload_n 1, 0, 0, 0, 0),
  (13, 3, .invokevirtual 68, 22, 0, 468, 0),
  (16, 3, .ifCond .ne 5, 21, 0, 0, 0),
  (19, 1, .iload_n 2, 0, 0, 0, 0),
  (20, 1, .ireturn, 0, 0, 0, 0),
  (21, 1, .iconst 0, 0, 0, 0, 0),
  (22, 1, .istore_n 3, 0, 0, 0, 0),
  (23, 1, .iload_n 3, 0, 0, 0, 0),
  (24, 1, .aload_n 0, 0, 0, 0, 0),
  (25, 3, .getfield 45, 1, 8, 163, 0),
  (28, 3, .if_icmp .ge 29, 57, 0, 0, 0),
  (31, 1, .aload_n 0, 0, 0, 0, 0),
  (32, 1, .iload_n 1, 0, 0, 0, 0),
  (33, 1, .iconst 1, 0, 0, 0, 1),
  (34, 1, .iload_n 3, 0, 0, 0, 0),
  (35, 1, .ishl, 0, 0, 0, 0),
  (36, 1, .iconst (-1), 0, 0, 0, (-1)),
  (37, 1, .ixor, 0, 0, 0, 0),
  (38, 1, .iand, 0, 0, 0, 0),
  (39, 3, .invokevirtual 68, 22, 0, 468, 0),
  (42, 3, .ifCond .ne 9, 51, 0, 0, 0),
  (45, 1, .iload_n 2, 0, 0, 0, 0),
  (46, 1, .iconst 1, 0, 0, 0, 1),
  (47, 1, .iload_n 3, 0, 0, 0, 0),
  (48, 1, .ishl, 0, 0, 0, 0),
  (49, 1, .ior, 0, 0, 0, 0),
  (50, 1, .istore_n 2, 0, 0, 0, 0),
  (51, 3, .iinc 3 1, 0, 0, 0, 1),
  (54, 3, .goto (-31), 23, 0, 0, 0),
  (57, 1, .iload_n 2, 0, 0, 0, 0),
  (58, 1, .ireturn, 0, 0, 0, 0)]
def mX1_neededShots : Mth := (yX1_neededShots, RX1, cX1_neededShots, 4, (some .int), (1, 0, 0), (588, 589, 35, 590), [23], tX1_neededShots, 0)
def tX1_planTrial : List En := [
  (0, 1, .aload_n 0, 0, 0, 0, 0),
  (1, 3, .getfield 41, 1, 7, 162, 0),
  (4, 3, .ifCond .ne 5, 9, 0, 0, 0),
  (7, 1, .iconst 0, 0, 0, 0, 0),
  (8, 1, .ireturn, 0, 0, 0, 0),
  (9, 1, .aload_n 0, 0, 0, 0, 0),
  (10, 3, .getfield 41, 1, 7, 162, 0),
  (13, 1, .iconst 1, 0, 0, 0, 1),
  (14, 1, .isub, 0, 0, 0, 0),
  (15, 1, .istore_n 2, 0, 0, 0, 0),
  (16, 1, .iload_n 2, 0, 0, 0, 0),
  (17, 3, .ifCond .lt 40, 57, 0, 0, 0),
  (20, 1, .iconst 0, 0, 0, 0, 0),
  (21, 1, .istore_n 3, 0, 0, 0, 0),
  (22, 1, .iload_n 3, 0, 0, 0, 0),
  (23, 1, .aload_n 0, 0, 0, 0, 0),
  (24, 3, .getfield 45, 1, 8, 163, 0),
  (27, 3, .if_icmp .ge 24, 51, 0, 0, 0),
  (30, 1, .aload_n 0, 0, 0, 0, 0),
  (31, 3, .getfield 20, 1, 2, 156, 0),
  (34, 1, .iload_n 2, 0, 0, 0, 0),
  (35, 1, .aaload, 0, 0, 0, 0),
  (36, 1, .iload_n 3, 0, 0, 0, 0),
  (37, 1, .aload_n 0, 0, 0, 0, 0),
  (38, 1, .iload_n 2, 0, 0, 0, 0),
  (39, 1, .iload_n 3, 0, 0, 0, 0),
  (40, 1, .iload_n 1, 0, 0, 0, 0),
  (41, 3, .invokevirtual 86, 18, 0, 476, 0),
  (44, 1, .iastore, 0, 0, 0, 0),
  (45, 3, .iinc 3 1, 0, 0, 0, 1),
  (48, 3, .goto (-26), 22, 0, 0, 0),
  (51, 3, .iinc 2 (-1), 0, 0, 0, (-1)),
  (54, 3, .goto (-38), 16, 0, 0, 0),
  (57, 1, .aload_n 0, 0, 0, 0, 0),
  (58, 3, .getfield 9, 1, 0, 154, 0),
  (61, 1, .iconst 0, 0, 0, 0, 0),
  (62, 1, .iaload, 0, 0, 0, 0),
  (63, 1, .iload_n 1, 0, 0, 0, 0),
  (64, 1, .iand, 0, 0, 0, 0),
  (65, 1, .istore_n 2, 0, 0, 0, 0),
  (66, 1, .aload_n 0, 0, 0, 0, 0),
  (67, 3, .getfield 29, 1, 5, 159, 0),
  (70, 1, .iconst 0, 0, 0, 0, 0),
  (71, 1, .aload_n 0, 0, 0, 0, 0),
  (72, 1, .iconst 0, 0, 0, 0, 0),
  (73, 1, .iload_n 2, 0, 0, 0, 0),
  (74, 2, .bipush (-9), 0, 0, 0, (-9)),
  (76, 3, .invokevirtual 90, 13, 0, 480, 0),
  (79, 1, .iastore, 0, 0, 0, 0),
  (80, 1, .aload_n 0, 0, 0, 0, 0),
  (81, 1, .iconst 0, 0, 0, 0, 0),
  (82, 1, .aload_n 0, 0, 0, 0, 0),
  (83, 3, .getfield 29, 1, 5, 159, 0),
  (86, 1, .iconst 0, 0, 0, 0, 0),
  (87, 1, .iaload, 0, 0, 0, 0),
  (88, 2, .bipush (-9), 0, 0, 0, (-9)),
  (90, 3, .invokevirtual 93, 15, 0, 484, 0),
  (93, 1, .istore_n 3, 0, 0, 0, 0),
  (94, 1, .iconst 1, 0, 0, 0, 1),
  (95, 2, .istore 4, 0, 0, 0, 0),
  (97, 2, .iload 4, 0, 0, 0, 0),
  (99, 1, .aload_n 0, 0, 0, 0, 0),
  (100, 3, .getfield 41, 1, 7, 162, 0),
  (103, 3, .if_icmp .ge 62, 165, 0, 0, 0),
  (106, 1, .aload_n 0, 0, 0, 0, 0),
  (107, 3, .getfield 29, 1, 5, 159, 0),
  (110, 2, .iload 4, 0, 0, 0, 0),
  (112, 1, .iconst 1, 0, 0, 0, 1),
  (113, 1, .isub, 0, 0, 0, 0),
  (114, 1, .iaload, 0, 0, 0, 0),
  (115, 2, .istore 5, 0, 0, 0, 0),
  (117, 2, .iload 5, 0, 0, 0, 0),
  (119, 2, .bipush (-9), 0, 0, 0, (-9)),
  (121, 3, .if_icmp .ne 7, 128, 0, 0, 0),
  (124, 1, .iconst 0, 0, 0, 0, 0),
  (125, 3, .goto 17, 142, 0, 0, 0),
  (128, 1, .aload_n 0, 0, 0, 0, 0),
  (129, 3, .getfield 17, 1, 1, 155, 0),
  (132, 2, .iload 4, 0, 0, 0, 0),
  (134, 1, .iconst 1, 0, 0, 0, 1),
  (135, 1, .isub, 0, 0, 0, 0),
  (136, 1, .aaload, 0, 0, 0, 0),
  (137, 2, .iload 5, 0, 0, 0, 0),
  (139, 1, .iaload, 0, 0, 0, 0),
  (140, 1, .iload_n 1, 0, 0, 0, 0),
  (141, 1, .iand, 0, 0, 0, 0),
  (142, 1, .istore_n 2, 0, 0, 0, 0),
  (143, 1, .aload_n 0, 0, 0, 0, 0),
  (144, 3, .getfield 29, 1, 5, 159, 0),
  (147, 2, .iload 4, 0, 0, 0, 0),
  (149, 1, .aload_n 0, 0, 0, 0, 0),
  (150, 2, .iload 4, 0, 0, 0, 0),
  (152, 1, .iload_n 2, 0, 0, 0, 0),
  (153, 2, .iload 5, 0, 0, 0, 0),
  (155, 3, .invokevirtual 90, 13, 0, 480, 0),
  (158, 1, .iastore, 0, 0, 0, 0),
  (159, 3, .iinc 4 1, 0, 0, 0, 1),
  (162, 3, .goto (-65), 97, 0, 0, 0),
  (165, 1, .iload_n 3, 0, 0, 0, 0),
  (166, 1, .ireturn, 0, 0, 0, 0)]
def mX1_planTrial : Mth := (yX1_planTrial, RX1, cX1_planTrial, 6, (some .int), (4, 0, 0), (473, 474, 35, 475), [16, 22, 97, 142], tX1_planTrial, 1)
def tX1_study : List En := [
  (0, 1, .aload_n 0, 0, 0, 0, 0),
  (1, 1, .aload_n 1, 0, 0, 0, 0),
  (2, 3, .getfield 35, 3, 4, 74, 0),
  (5, 3, .putfield 41, 1, 7, 162, 0),
  (8, 1, .aload_n 0, 0, 0, 0, 0),
  (9, 1, .aload_n 1, 0, 0, 0, 0),
  (10, 3, .getfield 42, 3, 5, 78, 0),
  (13, 3, .putfield 45, 1, 8, 163, 0),
  (16, 1, .iconst 0, 0, 0, 0, 0),
  (17, 1, .istore_n 2, 0, 0, 0, 0),
  (18, 1, .iload_n 2, 0, 0, 0, 0),
  (19, 1, .aload_n 0, 0, 0, 0, 0),
  (20, 3, .getfield 45, 1, 8, 163, 0),
  (23, 3, .if_icmp .ge 33, 56, 0, 0, 0),
  (26, 1, .aload_n 0, 0, 0, 0, 0),
  (27, 3, .getfield 23, 1, 3, 157, 0),
  (30, 1, .iload_n 2, 0, 0, 0, 0),
  (31, 1, .aload_n 1, 0, 0, 0, 0),
  (32, 1, .iload_n 2, 0, 0, 0, 0),
  (33, 3, .invokevirtual 46, 58, 0, 410, 0),
  (36, 1, .iastore, 0, 0, 0, 0),
  (37, 1, .aload_n 0, 0, 0, 0, 0),
  (38, 3, .getfield 26, 1, 4, 158, 0),
  (41, 1, .iload_n 2, 0, 0, 0, 0),
  (42, 1, .aload_n 1, 0, 0, 0, 0),
  (43, 1, .iload_n 2, 0, 0, 0, 0),
  (44, 2, .bipush 6, 0, 0, 0, 6),
  (46, 3, .invokevirtual 49, 49, 0, 444, 0),
  (49, 1, .iastore, 0, 0, 0, 0),
  (50, 3, .iinc 2 1, 0, 0, 0, 1),
  (53, 3, .goto (-35), 18, 0, 0, 0),
  (56, 1, .iconst 0, 0, 0, 0, 0),
  (57, 1, .istore_n 2, 0, 0, 0, 0),
  (58, 1, .iload_n 2, 0, 0, 0, 0),
  (59, 1, .aload_n 0, 0, 0, 0, 0),
  (60, 3, .getfield 41, 1, 7, 162, 0),
  (63, 3, .if_icmp .ge 20, 83, 0, 0, 0),
  (66, 1, .aload_n 0, 0, 0, 0, 0),
  (67, 3, .getfield 9, 1, 0, 154, 0),
  (70, 1, .iload_n 2, 0, 0, 0, 0),
  (71, 1, .aload_n 1, 0, 0, 0, 0),
  (72, 1, .iload_n 2, 0, 0, 0, 0),
  (73, 3, .invokevirtual 53, 44, 0, 445, 0),
  (76, 1, .iastore, 0, 0, 0, 0),
  (77, 3, .iinc 2 1, 0, 0, 0, 1),
  (80, 3, .goto (-22), 58, 0, 0, 0),
  (83, 1, .iconst 0, 0, 0, 0, 0),
  (84, 1, .istore_n 2, 0, 0, 0, 0),
  (85, 1, .iload_n 2, 0, 0, 0, 0),
  (86, 1, .iconst 1, 0, 0, 0, 1),
  (87, 1, .iadd, 0, 0, 0, 0),
  (88, 1, .aload_n 0, 0, 0, 0, 0),
  (89, 3, .getfield 41, 1, 7, 162, 0),
  (92, 3, .if_icmp .ge 40, 132, 0, 0, 0),
  (95, 1, .iconst 0, 0, 0, 0, 0),
  (96, 1, .istore_n 3, 0, 0, 0, 0),
  (97, 1, .iload_n 3, 0, 0, 0, 0),
  (98, 1, .aload_n 0, 0, 0, 0, 0),
  (99, 3, .getfield 45, 1, 8, 163, 0),
  (102, 3, .if_icmp .ge 24, 126, 0, 0, 0),
  (105, 1, .aload_n 0, 0, 0, 0, 0),
  (106, 3, .getfield 17, 1, 1, 155, 0),
  (109, 1, .iload_n 2, 0, 0, 0, 0),
  (110, 1, .aaload, 0, 0, 0, 0),
  (111, 1, .iload_n 3, 0, 0, 0, 0),
  (112, 1, .aload_n 0, 0, 0, 0, 0),
  (113, 1, .aload_n 1, 0, 0, 0, 0),
  (114, 1, .iload_n 2, 0, 0, 0, 0),
  (115, 1, .iload_n 3, 0, 0, 0, 0),
  (116, 3, .invokevirtual 55, 20, 0, 450, 0),
  (119, 1, .iastore, 0, 0, 0, 0),
  (120, 3, .iinc 3 1, 0, 0, 0, 1),
  (123, 3, .goto (-26), 97, 0, 0, 0),
  (126, 3, .iinc 2 1, 0, 0, 0, 1),
  (129, 3, .goto (-44), 85, 0, 0, 0),
  (132, 1, .return_, 0, 0, 0, 0)]
def mX1_study : Mth := (yX1_study, RX1, cX1_study, 4, none, (5, 0, 0), (407, 408, 35, 409), [18, 58, 85, 97], tX1_study, 1)
def tX1_takeTrial : List En := [
  (0, 1, .aload_n 0, 0, 0, 0, 0),
  (1, 1, .iload_n 1, 0, 0, 0, 0),
  (2, 3, .putfield 101, 1, 9, 164, 0),
  (5, 1, .aload_n 0, 0, 0, 0, 0),
  (6, 1, .iload_n 2, 0, 0, 0, 0),
  (7, 3, .putfield 75, 1, 10, 166, 0),
  (10, 1, .aload_n 0, 0, 0, 0, 0),
  (11, 3, .getfield 29, 1, 5, 159, 0),
  (14, 1, .iconst 0, 0, 0, 0, 0),
  (15, 1, .aload_n 0, 0, 0, 0, 0),
  (16, 3, .getfield 32, 1, 6, 160, 0),
  (19, 1, .iconst 0, 0, 0, 0, 0),
  (20, 1, .aload_n 0, 0, 0, 0, 0),
  (21, 3, .getfield 41, 1, 7, 162, 0),
  (24, 3, .invokestatic 104, 0, 1, 497, 0),
  (27, 1, .return_, 0, 0, 0, 0)]
def mX1_takeTrial : Mth := (yX1_takeTrial, RX1, cX1_takeTrial, 3, none, (1, 0, 0), (494, 495, 35, 496), [], tX1_takeTrial, 2)
def tX1_trialIsLower : List En := [
  (0, 1, .iconst 0, 0, 0, 0, 0),
  (1, 1, .istore_n 1, 0, 0, 0, 0),
  (2, 1, .iload_n 1, 0, 0, 0, 0),
  (3, 1, .aload_n 0, 0, 0, 0, 0),
  (4, 3, .getfield 41, 1, 7, 162, 0),
  (7, 3, .if_icmp .ge 45, 52, 0, 0, 0),
  (10, 1, .aload_n 0, 0, 0, 0, 0),
  (11, 3, .getfield 29, 1, 5, 159, 0),
  (14, 1, .iload_n 1, 0, 0, 0, 0),
  (15, 1, .iaload, 0, 0, 0, 0),
  (16, 1, .aload_n 0, 0, 0, 0, 0),
  (17, 3, .getfield 32, 1, 6, 160, 0),
  (20, 1, .iload_n 1, 0, 0, 0, 0),
  (21, 1, .iaload, 0, 0, 0, 0),
  (22, 3, .if_icmp .eq 24, 46, 0, 0, 0),
  (25, 1, .aload_n 0, 0, 0, 0, 0),
  (26, 3, .getfield 29, 1, 5, 159, 0),
  (29, 1, .iload_n 1, 0, 0, 0, 0),
  (30, 1, .iaload, 0, 0, 0, 0),
  (31, 1, .aload_n 0, 0, 0, 0, 0),
  (32, 3, .getfield 32, 1, 6, 160, 0),
  (35, 1, .iload_n 1, 0, 0, 0, 0),
  (36, 1, .iaload, 0, 0, 0, 0),
  (37, 3, .if_icmp .ge 7, 44, 0, 0, 0),
  (40, 1, .iconst 1, 0, 0, 0, 1),
  (41, 3, .goto 4, 45, 0, 0, 0),
  (44, 1, .iconst 0, 0, 0, 0, 0),
  (45, 1, .ireturn, 0, 0, 0, 0),
  (46, 3, .iinc 1 1, 0, 0, 0, 1),
  (49, 3, .goto (-47), 2, 0, 0, 0),
  (52, 1, .iconst 0, 0, 0, 0, 0),
  (53, 1, .ireturn, 0, 0, 0, 0)]
def mX1_trialIsLower : Mth := (yX1_trialIsLower, RX1, cX1_trialIsLower, 2, (some .boolean), (0, 0, 0), (490, 491, 35, 492), [2], tX1_trialIsLower, 0)
def tX2_dropText : List En := [
  (0, 1, .aload_n 0, 0, 0, 0, 0),
  (1, 3, .getfield 15, 2, 1, 124, 0),
  (4, 1, .istore_n 1, 0, 0, 0, 0),
  (5, 1, .aload_n 0, 0, 0, 0, 0),
  (6, 1, .iconst 0, 0, 0, 0, 0),
  (7, 3, .putfield 15, 2, 1, 124, 0),
  (10, 1, .iload_n 1, 0, 0, 0, 0),
  (11, 1, .ireturn, 0, 0, 0, 0)]
def mX2_dropText : Mth := (yX2_dropText, RX2, cX2_dropText, 2, (some .int), (0, 0, 0), (247, 248, 34, 249), [], tX2_dropText, 0)
def tX2_init : List En := [
  (0, 1, .aload_n 0, 0, 0, 0, 0),
  (1, 3, .invokespecial 3, 0, 2, 122, 0),
  (4, 1, .aload_n 0, 0, 0, 0, 0),
  (5, 3, .sipush 160, 0, 0, 0, 160),
  (8, 2, .newarray .int, 0, 0, 0, 0),
  (10, 3, .putfield 9, 2, 0, 123, 0),
  (13, 1, .return_, 0, 0, 0, 0)]
def mX2_init : Mth := (yX2_init, RX2, cX2_init, 1, none, (1, 5, 200), (120, 0, 34, 121), [], tX2_init, 0)
def tX2_isWord : List En := [
  (0, 1, .aload_n 0, 0, 0, 0, 0),
  (1, 3, .getfield 37, 2, 2, 126, 0),
  (4, 1, .iconst 1, 0, 0, 0, 1),
  (5, 3, .if_icmp .ne 19, 24, 0, 0, 0),
  (8, 1, .aload_n 0, 0, 0, 0, 0),
  (9, 3, .getfield 31, 2, 4, 128, 0),
  (12, 1, .aload_n 0, 0, 0, 0, 0),
  (13, 3, .getfield 44, 2, 3, 127, 0),
  (16, 1, .isub, 0, 0, 0, 0),
  (17, 1, .aload_n 1, 0, 0, 0, 0),
  (18, 3, .invokevirtual 98, 4, 0, 276, 0),
  (21, 3, .if_icmp .eq 5, 26, 0, 0, 0),
  (24, 1, .iconst 0, 0, 0, 0, 0),
  (25, 1, .ireturn, 0, 0, 0, 0),
  (26, 1, .iconst 0, 0, 0, 0, 0),
  (27, 1, .istore_n 2, 0, 0, 0, 0),
  (28, 1, .iload_n 2, 0, 0, 0, 0),
  (29, 1, .aload_n 1, 0, 0, 0, 0),
  (30, 3, .invokevirtual 98, 4, 0, 276, 0),
  (33, 3, .if_icmp .ge 30, 63, 0, 0, 0),
  (36, 1, .aload_n 0, 0, 0, 0, 0),
  (37, 3, .getfield 9, 2, 0, 123, 0),
  (40, 1, .aload_n 0, 0, 0, 0, 0),
  (41, 3, .getfield 44, 2, 3, 127, 0),
  (44, 1, .iload_n 2, 0, 0, 0, 0),
  (45, 1, .iadd, 0, 0, 0, 0),
  (46, 1, .iaload, 0, 0, 0, 0),
  (47, 1, .aload_n 1, 0, 0, 0, 0),
  (48, 1, .iload_n 2, 0, 0, 0, 0),
  (49, 3, .invokevirtual 103, 0, 0, 286, 0),
  (52, 3, .if_icmp .eq 5, 57, 0, 0, 0),
  (55, 1, .iconst 0, 0, 0, 0, 0),
  (56, 1, .ireturn, 0, 0, 0, 0),
  (57, 3, .iinc 2 1, 0, 0, 0, 1),
  (60, 3, .goto (-32), 28, 0, 0, 0),
  (63, 1, .iconst 1, 0, 0, 0, 1),
  (64, 1, .ireturn, 0, 0, 0, 0)]
def mX2_isWord : Mth := (yX2_isWord, RX2, cX2_isWord, 3, (some .boolean), (4, 0, 0), (273, 274, 34, 275), [28], tX2_isWord, 1)
def tX2_kindAt : List En := [
  (0, 1, .iload_n 1, 0, 0, 0, 0),
  (1, 1, .aload_n 0, 0, 0, 0, 0),
  (2, 3, .getfield 15, 2, 1, 124, 0),
  (5, 3, .if_icmp .lt 5, 10, 0, 0, 0),
  (8, 1, .iconst 0, 0, 0, 0, 0),
  (9, 1, .ireturn, 0, 0, 0, 0),
  (10, 1, .aload_n 0, 0, 0, 0, 0),
  (11, 3, .getfield 9, 2, 0, 123, 0),
  (14, 1, .iload_n 1, 0, 0, 0, 0),
  (15, 1, .iaload, 0, 0, 0, 0),
  (16, 1, .istore_n 2, 0, 0, 0, 0),
  (17, 1, .iload_n 2, 0, 0, 0, 0),
  (18, 2, .bipush 97, 0, 0, 0, 97),
  (20, 3, .if_icmp .lt 11, 31, 0, 0, 0),
  (23, 1, .iload_n 2, 0, 0, 0, 0),
  (24, 2, .bipush 122, 0, 0, 0, 122),
  (26, 3, .if_icmp .gt 5, 31, 0, 0, 0),
  (29, 1, .iconst 1, 0, 0, 0, 1),
  (30, 1, .ireturn, 0, 0, 0, 0),
  (31, 1, .iload_n 2, 0, 0, 0, 0),
  (32, 2, .bipush 48, 0, 0, 0, 48),
  (34, 3, .if_icmp .lt 11, 45, 0, 0, 0),
  (37, 1, .iload_n 2, 0, 0, 0, 0),
  (38, 2, .bipush 57, 0, 0, 0, 57),
  (40, 3, .if_icmp .gt 5, 45, 0, 0, 0),
  (43, 1, .iconst 2, 0, 0, 0, 2),
  (44, 1, .ireturn, 0, 0, 0, 0),
  (45, 1, .iload_n 2, 0, 0, 0, 0),
  (46, 2, .bipush 59, 0, 0, 0, 59),
  (48, 3, .if_icmp .ne 7, 55, 0, 0, 0),
  (51, 1, .iconst 3, 0, 0, 0, 3),
  (52, 3, .goto 4, 56, 0, 0, 0),
  (55, 1, .iconst 4, 0, 0, 0, 4),
  (56, 1, .ireturn, 0, 0, 0, 0)]
def mX2_kindAt : Mth := (yX2_kindAt, RX2, cX2_kindAt, 3, (some .int), (0, 0, 0), (264, 265, 34, 266), [], tX2_kindAt, 1)
def tX2_readInto : List En := [
  (0, 1, .aload_n 1, 0, 0, 0, 0),
  (1, 3, .invokevirtual 19, 61, 0, 258, 0),
  (4, 1, .aload_n 0, 0, 0, 0, 0),
  (5, 1, .iconst 0, 0, 0, 0, 0),
  (6, 3, .putfield 24, 2, 5, 129, 0),
  (9, 1, .aload_n 0, 0, 0, 0, 0),
  (10, 1, .iconst 0, 0, 0, 0, 0),
  (11, 3, .putfield 28, 2, 6, 130, 0),
  (14, 1, .aload_n 0, 0, 0, 0, 0),
  (15, 1, .iconst 0, 0, 0, 0, 0),
  (16, 3, .putfield 31, 2, 4, 128, 0),
  (19, 1, .iconst 0, 0, 0, 0, 0),
  (20, 1, .istore_n 2, 0, 0, 0, 0),
  (21, 1, .iload_n 2, 0, 0, 0, 0),
  (22, 2, .bipush 8, 0, 0, 0, 8),
  (24, 3, .if_icmp .gt 38, 62, 0, 0, 0),
  (27, 1, .aload_n 0, 0, 0, 0, 0),
  (28, 3, .invokevirtual 34, 38, 0, 259, 0),
  (31, 1, .aload_n 0, 0, 0, 0, 0),
  (32, 3, .getfield 37, 2, 2, 126, 0),
  (35, 3, .ifCond .ne 5, 40, 0, 0, 0),
  (38, 1, .iload_n 2, 0, 0, 0, 0),
  (39, 1, .ireturn, 0, 0, 0, 0),
  (40, 1, .aload_n 0, 0, 0, 0, 0),
  (41, 1, .aload_n 1, 0, 0, 0, 0),
  (42, 3, .invokevirtual 40, 34, 0, 267, 0),
  (45, 3, .ifCond .ne 11, 56, 0, 0, 0),
  (48, 2, .bipush (-10), 0, 0, 0, (-10)),
  (50, 1, .aload_n 0, 0, 0, 0, 0),
  (51, 3, .getfield 44, 2, 3, 127, 0),
  (54, 1, .isub, 0, 0, 0, 0),
  (55, 1, .ireturn, 0, 0, 0, 0),
  (56, 3, .iinc 2 1, 0, 0, 0, 1),
  (59, 3, .goto (-38), 21, 0, 0, 0),
  (62, 2, .bipush (-10), 0, 0, 0, (-10)),
  (64, 1, .aload_n 0, 0, 0, 0, 0),
  (65, 3, .getfield 44, 2, 3, 127, 0),
  (68, 1, .isub, 0, 0, 0, 0),
  (69, 1, .ireturn, 0, 0, 0, 0)]
def mX2_readInto : Mth := (yX2_readInto, RX2, cX2_readInto, 3, (some .int), (6, 0, 0), (255, 256, 34, 257), [21], tX2_readInto, 1)
def tX2_readItem : List En := [
  (0, 1, .aload_n 0, 0, 0, 0, 0),
  (1, 2, .ldc 47, 1000, 2, 0, 0),
  (3, 3, .invokevirtual 49, 31, 0, 272, 0),
  (6, 3, .ifCond .eq 24, 30, 0, 0, 0),
  (9, 1, .aload_n 0, 0, 0, 0, 0),
  (10, 3, .getfield 24, 2, 5, 129, 0),
  (13, 3, .ifCond .ne 15, 28, 0, 0, 0),
  (16, 1, .aload_n 0, 0, 0, 0, 0),
  (17, 1, .aload_n 1, 0, 0, 0, 0),
  (18, 3, .invokevirtual 53, 36, 0, 324, 0),
  (21, 3, .ifCond .eq 7, 28, 0, 0, 0),
  (24, 1, .iconst 1, 0, 0, 0, 1),
  (25, 3, .goto 4, 29, 0, 0, 0),
  (28, 1, .iconst 0, 0, 0, 0, 0),
  (29, 1, .ireturn, 0, 0, 0, 0),
  (30, 1, .aload_n 0, 0, 0, 0, 0),
  (31, 2, .ldc 56, 1001, 2, 0, 0),
  (33, 3, .invokevirtual 49, 31, 0, 272, 0),
  (36, 3, .ifCond .eq 24, 60, 0, 0, 0),
  (39, 1, .aload_n 0, 0, 0, 0, 0),
  (40, 3, .getfield 28, 2, 6, 130, 0),
  (43, 3, .ifCond .ne 15, 58, 0, 0, 0),
  (46, 1, .aload_n 0, 0, 0, 0, 0),
  (47, 1, .aload_n 1, 0, 0, 0, 0),
  (48, 3, .invokevirtual 58, 35, 0, 337, 0),
  (51, 3, .ifCond .eq 7, 58, 0, 0, 0),
  (54, 1, .iconst 1, 0, 0, 0, 1),
  (55, 3, .goto 4, 59, 0, 0, 0),
  (58, 1, .iconst 0, 0, 0, 0, 0),
  (59, 1, .ireturn, 0, 0, 0, 0),
  (60, 1, .aload_n 0, 0, 0, 0, 0),
  (61, 2, .ldc 61, 1002, 2, 0, 0),
  (63, 3, .invokevirtual 49, 31, 0, 272, 0),
  (66, 3, .ifCond .eq 24, 90, 0, 0, 0),
  (69, 1, .aload_n 1, 0, 0, 0, 0),
  (70, 3, .getfield 63, 3, 5, 81, 0),
  (73, 2, .bipush 6, 0, 0, 0, 6),
  (75, 3, .if_icmp .ge 15, 90, 0, 0, 0),
  (78, 1, .aload_n 0, 0, 0, 0, 0),
  (79, 1, .aload_n 1, 0, 0, 0, 0),
  (80, 3, .invokevirtual 66, 37, 0, 342, 0),
  (83, 3, .ifCond .eq 7, 90, 0, 0, 0),
  (86, 1, .iconst 1, 0, 0, 0, 1),
  (87, 3, .goto 4, 91, 0, 0, 0),
  (90, 1, .iconst 0, 0, 0, 0, 0),
  (91, 1, .ireturn, 0, 0, 0, 0)]
def mX2_readItem : Mth := (yX2_readItem, RX2, cX2_readItem, 2, (some .boolean), (5, 0, 0), (268, 269, 34, 270), [], tX2_readItem, 1)
def tX2_readLines : List En := [
  (0, 1, .aload_n 0, 0, 0, 0, 0),
  (1, 1, .iconst 1, 0, 0, 0, 1),
  (2, 3, .putfield 28, 2, 6, 130, 0),
  (5, 1, .aload_n 0, 0, 0, 0, 0),
  (6, 3, .invokevirtual 34, 38, 0, 259, 0),
  (9, 1, .aload_n 0, 0, 0, 0, 0),
  (10, 3, .getfield 31, 2, 4, 128, 0),
  (13, 1, .aload_n 0, 0, 0, 0, 0),
  (14, 3, .getfield 44, 2, 3, 127, 0),
  (17, 1, .isub, 0, 0, 0, 0),
  (18, 1, .istore_n 2, 0, 0, 0, 0),
  (19, 1, .aload_n 0, 0, 0, 0, 0),
  (20, 3, .getfield 37, 2, 2, 126, 0),
  (23, 1, .iconst 2, 0, 0, 0, 2),
  (24, 3, .if_icmp .ne 9, 33, 0, 0, 0),
  (27, 1, .iload_n 2, 0, 0, 0, 0),
  (28, 2, .bipush 8, 0, 0, 0, 8),
  (30, 3, .if_icmp .le 5, 35, 0, 0, 0),
  (33, 1, .iconst 0, 0, 0, 0, 0),
  (34, 1, .ireturn, 0, 0, 0, 0),
  (35, 1, .iconst 0, 0, 0, 0, 0),
  (36, 1, .istore_n 3, 0, 0, 0, 0),
  (37, 1, .iload_n 3, 0, 0, 0, 0),
  (38, 1, .iload_n 2, 0, 0, 0, 0),
  (39, 3, .if_icmp .ge 41, 80, 0, 0, 0),
  (42, 1, .aload_n 1, 0, 0, 0, 0),
  (43, 3, .getfield 80, 3, 1, 67, 0),
  (46, 1, .iload_n 3, 0, 0, 0, 0),
  (47, 1, .aload_n 0, 0, 0, 0, 0),
  (48, 3, .getfield 9, 2, 0, 123, 0),
  (51, 1, .aload_n 0, 0, 0, 0, 0),
  (52, 3, .getfield 44, 2, 3, 127, 0),
  (55, 1, .iload_n 3, 0, 0, 0, 0),
  (56, 1, .iadd, 0, 0, 0, 0),
  (57, 1, .iaload, 0, 0, 0, 0),
  (58, 2, .bipush 48, 0, 0, 0, 48),
  (60, 1, .isub, 0, 0, 0, 0),
  (61, 1, .iastore, 0, 0, 0, 0),
  (62, 1, .aload_n 1, 0, 0, 0, 0),
  (63, 3, .getfield 80, 3, 1, 67, 0),
  (66, 1, .iload_n 3, 0, 0, 0, 0),
  (67, 1, .iaload, 0, 0, 0, 0),
  (68, 1, .iconst 1, 0, 0, 0, 1),
  (69, 3, .if_icmp .le 5, 74, 0, 0, 0),
  (72, 1, .iconst 0, 0, 0, 0, 0),
  (73, 1, .ireturn, 0, 0, 0, 0),
  (74, 3, .iinc 3 1, 0, 0, 0, 1),
  (77, 3, .goto (-40), 37, 0, 0, 0),
  (80, 1, .aload_n 1, 0, 0, 0, 0),
  (81, 1, .iload_n 2, 0, 0, 0, 0),
  (82, 3, .putfield 83, 3, 4, 76, 0),
  (85, 1, .aload_n 0, 0, 0, 0, 0),
  (86, 3, .invokevirtual 76, 40, 0, 332, 0),
  (89, 1, .ireturn, 0, 0, 0, 0)]
def mX2_readLines : Mth := (yX2_readLines, RX2, cX2_readLines, 4, (some .boolean), (3, 0, 0), (338, 339, 34, 340), [37], tX2_readLines, 1)
def tX2_readPlayers : List En := [
  (0, 1, .aload_n 0, 0, 0, 0, 0),
  (1, 1, .iconst 1, 0, 0, 0, 1),
  (2, 3, .putfield 24, 2, 5, 129, 0),
  (5, 1, .iconst 0, 0, 0, 0, 0),
  (6, 1, .istore_n 2, 0, 0, 0, 0),
  (7, 1, .iload_n 2, 0, 0, 0, 0),
  (8, 1, .iconst 4, 0, 0, 0, 4),
  (9, 3, .if_icmp .ge 39, 48, 0, 0, 0),
  (12, 1, .aload_n 0, 0, 0, 0, 0),
  (13, 1, .iconst 0, 0, 0, 0, 0),
  (14, 2, .bipush 9, 0, 0, 0, 9),
  (16, 3, .invokevirtual 69, 39, 0, 328, 0),
  (19, 3, .ifCond .ne 5, 24, 0, 0, 0),
  (22, 1, .iconst 0, 0, 0, 0, 0),
  (23, 1, .ireturn, 0, 0, 0, 0),
  (24, 1, .aload_n 1, 0, 0, 0, 0),
  (25, 3, .getfield 73, 3, 0, 64, 0),
  (28, 1, .iload_n 2, 0, 0, 0, 0),
  (29, 1, .aload_n 0, 0, 0, 0, 0),
  (30, 3, .getfield 9, 2, 0, 123, 0),
  (33, 1, .aload_n 0, 0, 0, 0, 0),
  (34, 3, .getfield 44, 2, 3, 127, 0),
  (37, 1, .iaload, 0, 0, 0, 0),
  (38, 2, .bipush 48, 0, 0, 0, 48),
  (40, 1, .isub, 0, 0, 0, 0),
  (41, 1, .iastore, 0, 0, 0, 0),
  (42, 3, .iinc 2 1, 0, 0, 0, 1),
  (45, 3, .goto (-38), 7, 0, 0, 0),
  (48, 1, .aload_n 1, 0, 0, 0, 0),
  (49, 3, .getfield 73, 3, 0, 64, 0),
  (52, 1, .iconst 0, 0, 0, 0, 0),
  (53, 1, .iaload, 0, 0, 0, 0),
  (54, 1, .aload_n 1, 0, 0, 0, 0),
  (55, 3, .getfield 73, 3, 0, 64, 0),
  (58, 1, .iconst 2, 0, 0, 0, 2),
  (59, 1, .iaload, 0, 0, 0, 0),
  (60, 3, .if_icmp .ne 18, 78, 0, 0, 0),
  (63, 1, .aload_n 1, 0, 0, 0, 0),
  (64, 3, .getfield 73, 3, 0, 64, 0),
  (67, 1, .iconst 1, 0, 0, 0, 1),
  (68, 1, .iaload, 0, 0, 0, 0),
  (69, 1, .aload_n 1, 0, 0, 0, 0),
  (70, 3, .getfield 73, 3, 0, 64, 0),
  (73, 1, .iconst 3, 0, 0, 0, 3),
  (74, 1, .iaload, 0, 0, 0, 0),
  (75, 3, .if_icmp .eq 7, 82, 0, 0, 0),
  (78, 1, .iconst 1, 0, 0, 0, 1),
  (79, 3, .goto 4, 83, 0, 0, 0),
  (82, 1, .iconst 0, 0, 0, 0, 0),
  (83, 1, .istore_n 2, 0, 0, 0, 0),
  (84, 1, .iload_n 2, 0, 0, 0, 0),
  (85, 3, .ifCond .eq 14, 99, 0, 0, 0),
  (88, 1, .aload_n 0, 0, 0, 0, 0),
  (89, 3, .invokevirtual 76, 40, 0, 332, 0),
  (92, 3, .ifCond .eq 7, 99, 0, 0, 0),
  (95, 1, .iconst 1, 0, 0, 0, 1),
  (96, 3, .goto 4, 100, 0, 0, 0),
  (99, 1, .iconst 0, 0, 0, 0, 0),
  (100, 1, .ireturn, 0, 0, 0, 0)]
def mX2_readPlayers : Mth := (yX2_readPlayers, RX2, cX2_readPlayers, 3, (some .boolean), (3, 0, 0), (325, 326, 34, 327), [7, 78, 83, 99], tX2_readPlayers, 1)
def tX2_readShot : List En := [
  (0, 1, .aload_n 1, 0, 0, 0, 0),
  (1, 3, .getfield 63, 3, 5, 81, 0),
  (4, 2, .bipush 7, 0, 0, 0, 7),
  (6, 1, .imul, 0, 0, 0, 0),
  (7, 1, .istore_n 2, 0, 0, 0, 0),
  (8, 1, .iconst 0, 0, 0, 0, 0),
  (9, 1, .istore_n 3, 0, 0, 0, 0),
  (10, 1, .iload_n 3, 0, 0, 0, 0),
  (11, 2, .bipush 7, 0, 0, 0, 7),
  (13, 3, .if_icmp .ge 68, 81, 0, 0, 0),
  (16, 1, .iload_n 3, 0, 0, 0, 0),
  (17, 1, .iconst 5, 0, 0, 0, 5),
  (18, 3, .if_icmp .ne 14, 32, 0, 0, 0),
  (21, 1, .aload_n 1, 0, 0, 0, 0),
  (22, 3, .getfield 85, 3, 3, 73, 0),
  (25, 1, .iload_n 2, 0, 0, 0, 0),
  (26, 1, .iconst 4, 0, 0, 0, 4),
  (27, 1, .iadd, 0, 0, 0, 0),
  (28, 1, .iaload, 0, 0, 0, 0),
  (29, 3, .goto 8, 37, 0, 0, 0),
  (32, 3, .getstatic 88, 0, 0, 346, 0),
  (35, 1, .iload_n 3, 0, 0, 0, 0),
  (36, 1, .iaload, 0, 0, 0, 0),
  (37, 2, .istore 4, 0, 0, 0, 0),
  (39, 1, .aload_n 0, 0, 0, 0, 0),
  (40, 2, .iload 4, 0, 0, 0, 0),
  (42, 3, .getstatic 91, 1, 0, 348, 0),
  (45, 1, .iload_n 3, 0, 0, 0, 0),
  (46, 1, .iaload, 0, 0, 0, 0),
  (47, 3, .invokevirtual 69, 39, 0, 328, 0),
  (50, 3, .ifCond .ne 5, 55, 0, 0, 0),
  (53, 1, .iconst 0, 0, 0, 0, 0),
  (54, 1, .ireturn, 0, 0, 0, 0),
  (55, 1, .aload_n 1, 0, 0, 0, 0),
  (56, 3, .getfield 85, 3, 3, 73, 0),
  (59, 1, .iload_n 2, 0, 0, 0, 0),
  (60, 1, .iload_n 3, 0, 0, 0, 0),
  (61, 1, .iadd, 0, 0, 0, 0),
  (62, 1, .aload_n 0, 0, 0, 0, 0),
  (63, 3, .getfield 9, 2, 0, 123, 0),
  (66, 1, .aload_n 0, 0, 0, 0, 0),
  (67, 3, .getfield 44, 2, 3, 127, 0),
  (70, 1, .iaload, 0, 0, 0, 0),
  (71, 2, .bipush 48, 0, 0, 0, 48),
  (73, 1, .isub, 0, 0, 0, 0),
  (74, 1, .iastore, 0, 0, 0, 0),
  (75, 3, .iinc 3 1, 0, 0, 0, 1),
  (78, 3, .goto (-68), 10, 0, 0, 0),
  (81, 1, .aload_n 1, 0, 0, 0, 0),
  (82, 1, .dup, 0, 0, 0, 0),
  (83, 3, .getfield 63, 3, 5, 81, 0),
  (86, 1, .iconst 1, 0, 0, 0, 1),
  (87, 1, .iadd, 0, 0, 0, 0),
  (88, 3, .putfield 63, 3, 5, 81, 0),
  (91, 1, .aload_n 0, 0, 0, 0, 0),
  (92, 3, .invokevirtual 76, 40, 0, 332, 0),
  (95, 1, .ireturn, 0, 0, 0, 0)]
def mX2_readShot : Mth := (yX2_readShot, RX2, cX2_readShot, 5, (some .boolean), (3, 0, 0), (343, 344, 34, 345), [10, 37], tX2_readShot, 1)
def tX2_step : List En := [
  (0, 1, .aload_n 0, 0, 0, 0, 0),
  (1, 1, .aload_n 0, 0, 0, 0, 0),
  (2, 3, .getfield 31, 2, 4, 128, 0),
  (5, 3, .putfield 44, 2, 3, 127, 0),
  (8, 1, .aload_n 0, 0, 0, 0, 0),
  (9, 3, .getfield 44, 2, 3, 127, 0),
  (12, 1, .aload_n 0, 0, 0, 0, 0),
  (13, 3, .getfield 15, 2, 1, 124, 0),
  (16, 3, .if_icmp .ge 30, 46, 0, 0, 0),
  (19, 1, .aload_n 0, 0, 0, 0, 0),
  (20, 3, .getfield 9, 2, 0, 123, 0),
  (23, 1, .aload_n 0, 0, 0, 0, 0),
  (24, 3, .getfield 44, 2, 3, 127, 0),
  (27, 1, .iaload, 0, 0, 0, 0),
  (28, 2, .bipush 32, 0, 0, 0, 32),
  (30, 3, .if_icmp .ne 16, 46, 0, 0, 0),
  (33, 1, .aload_n 0, 0, 0, 0, 0),
  (34, 1, .dup, 0, 0, 0, 0),
  (35, 3, .getfield 44, 2, 3, 127, 0),
  (38, 1, .iconst 1, 0, 0, 0, 1),
  (39, 1, .iadd, 0, 0, 0, 0),
  (40, 3, .putfield 44, 2, 3, 127, 0),
  (43, 3, .goto (-35), 8, 0, 0, 0),
  (46, 1, .aload_n 0, 0, 0, 0, 0),
  (47, 1, .aload_n 0, 0, 0, 0, 0),
  (48, 3, .getfield 44, 2, 3, 127, 0),
  (51, 3, .putfield 31, 2, 4, 128, 0),
  (54, 1, .aload_n 0, 0, 0, 0, 0),
  (55, 1, .aload_n 0, 0, 0, 0, 0),
  (56, 1, .aload_n 0, 0, 0, 0, 0),
  (57, 3, .getfield 44, 2, 3, 127, 0),
  (60, 3, .invokevirtual 94, 32, 0, 263, 0),
  (63, 3, .putfield 37, 2, 2, 126, 0),
  (66, 1, .aload_n 0, 0, 0, 0, 0),
  (67, 3, .getfield 37, 2, 2, 126, 0),
  (70, 3, .ifCond .ne 4, 74, 0, 0, 0),
  (73, 1, .return_, 0, 0, 0, 0),
  (74, 1, .aload_n 0, 0, 0, 0, 0),
  (75, 1, .dup, 0, 0, 0, 0),
  (76, 3, .getfield 31, 2, 4, 128, 0),
  (79, 1, .iconst 1, 0, 0, 0, 1),
  (80, 1, .iadd, 0, 0, 0, 0),
  (81, 3, .putfield 31, 2, 4, 128, 0),
  (84, 1, .aload_n 0, 0, 0, 0, 0),
  (85, 3, .getfield 37, 2, 2, 126, 0),
  (88, 1, .iconst 1, 0, 0, 0, 1),
  (89, 3, .if_icmp .eq 11, 100, 0, 0, 0),
  (92, 1, .aload_n 0, 0, 0, 0, 0),
  (93, 3, .getfield 37, 2, 2, 126, 0),
  (96, 1, .iconst 2, 0, 0, 0, 2),
  (97, 3, .if_icmp .ne 42, 139, 0, 0, 0),
  (100, 1, .aload_n 0, 0, 0, 0, 0),
  (101, 3, .getfield 31, 2, 4, 128, 0),
  (104, 1, .aload_n 0, 0, 0, 0, 0),
  (105, 3, .getfield 15, 2, 1, 124, 0),
  (108, 3, .if_icmp .ge 31, 139, 0, 0, 0),
  (111, 1, .aload_n 0, 0, 0, 0, 0),
  (112, 1, .aload_n 0, 0, 0, 0, 0),
  (113, 3, .getfield 31, 2, 4, 128, 0),
  (116, 3, .invokevirtual 94, 32, 0, 263, 0),
  (119, 1, .aload_n 0, 0, 0, 0, 0),
  (120, 3, .getfield 37, 2, 2, 126, 0),
  (123, 3, .if_icmp .ne 16, 139, 0, 0, 0),
  (126, 1, .aload_n 0, 0, 0, 0, 0),
  (127, 1, .dup, 0, 0, 0, 0),
  (128, 3, .getfield 31, 2, 4, 128, 0),
  (131, 1, .iconst 1, 0, 0, 0, 1),
  (132, 1, .iadd, 0, 0, 0, 0),
  (133, 3, .putfield 31, 2, 4, 128, 0),
  (136, 3, .goto (-36), 100, 0, 0, 0),
  (139, 1, .return_, 0, 0, 0, 0)]
def mX2_step : Mth := (yX2_step, RX2, cX2_step, 1, none, (1, 0, 0), (260, 261, 34, 262), [8, 46, 100], tX2_step, 0)
def tX2_stepToFigure : List En := [
  (0, 1, .aload_n 0, 0, 0, 0, 0),
  (1, 3, .invokevirtual 34, 38, 0, 259, 0),
  (4, 1, .aload_n 0, 0, 0, 0, 0),
  (5, 3, .getfield 37, 2, 2, 126, 0),
  (8, 1, .iconst 2, 0, 0, 0, 2),
  (9, 3, .if_icmp .ne 16, 25, 0, 0, 0),
  (12, 1, .aload_n 0, 0, 0, 0, 0),
  (13, 3, .getfield 31, 2, 4, 128, 0),
  (16, 1, .aload_n 0, 0, 0, 0, 0),
  (17, 3, .getfield 44, 2, 3, 127, 0),
  (20, 1, .isub, 0, 0, 0, 0),
  (21, 1, .iconst 1, 0, 0, 0, 1),
  (22, 3, .if_icmp .eq 5, 27, 0, 0, 0),
  (25, 1, .iconst 0, 0, 0, 0, 0),
  (26, 1, .ireturn, 0, 0, 0, 0),
  (27, 1, .aload_n 0, 0, 0, 0, 0),
  (28, 3, .getfield 9, 2, 0, 123, 0),
  (31, 1, .aload_n 0, 0, 0, 0, 0),
  (32, 3, .getfield 44, 2, 3, 127, 0),
  (35, 1, .iaload, 0, 0, 0, 0),
  (36, 2, .bipush 48, 0, 0, 0, 48),
  (38, 1, .isub, 0, 0, 0, 0),
  (39, 1, .istore_n 3, 0, 0, 0, 0),
  (40, 1, .iload_n 3, 0, 0, 0, 0),
  (41, 1, .iload_n 1, 0, 0, 0, 0),
  (42, 3, .if_icmp .lt 12, 54, 0, 0, 0),
  (45, 1, .iload_n 3, 0, 0, 0, 0),
  (46, 1, .iload_n 2, 0, 0, 0, 0),
  (47, 3, .if_icmp .gt 7, 54, 0, 0, 0),
  (50, 1, .iconst 1, 0, 0, 0, 1),
  (51, 3, .goto 4, 55, 0, 0, 0),
  (54, 1, .iconst 0, 0, 0, 0, 0),
  (55, 1, .ireturn, 0, 0, 0, 0)]
def mX2_stepToFigure : Mth := (yX2_stepToFigure, RX2, cX2_stepToFigure, 4, (some .boolean), (2, 0, 0), (329, 330, 34, 331), [], tX2_stepToFigure, 2)
def tX2_stepToStop : List En := [
  (0, 1, .aload_n 0, 0, 0, 0, 0),
  (1, 3, .invokevirtual 34, 38, 0, 259, 0),
  (4, 1, .aload_n 0, 0, 0, 0, 0),
  (5, 3, .getfield 37, 2, 2, 126, 0),
  (8, 1, .iconst 3, 0, 0, 0, 3),
  (9, 3, .if_icmp .ne 7, 16, 0, 0, 0),
  (12, 1, .iconst 1, 0, 0, 0, 1),
  (13, 3, .goto 4, 17, 0, 0, 0),
  (16, 1, .iconst 0, 0, 0, 0, 0),
  (17, 1, .ireturn, 0, 0, 0, 0)]
def mX2_stepToStop : Mth := (yX2_stepToStop, RX2, cX2_stepToStop, 1, (some .boolean), (2, 0, 0), (333, 334, 34, 335), [], tX2_stepToStop, 0)
def tX2_takeLetter : List En := [
  (0, 1, .aload_n 0, 0, 0, 0, 0),
  (1, 3, .getfield 15, 2, 1, 124, 0),
  (4, 3, .sipush 160, 0, 0, 0, 160),
  (7, 3, .if_icmp .lt 5, 12, 0, 0, 0),
  (10, 1, .iconst 0, 0, 0, 0, 0),
  (11, 1, .ireturn, 0, 0, 0, 0),
  (12, 1, .aload_n 0, 0, 0, 0, 0),
  (13, 3, .getfield 9, 2, 0, 123, 0),
  (16, 1, .aload_n 0, 0, 0, 0, 0),
  (17, 3, .getfield 15, 2, 1, 124, 0),
  (20, 1, .iload_n 1, 0, 0, 0, 0),
  (21, 1, .iastore, 0, 0, 0, 0),
  (22, 1, .aload_n 0, 0, 0, 0, 0),
  (23, 1, .dup, 0, 0, 0, 0),
  (24, 3, .getfield 15, 2, 1, 124, 0),
  (27, 1, .iconst 1, 0, 0, 0, 1),
  (28, 1, .iadd, 0, 0, 0, 0),
  (29, 3, .putfield 15, 2, 1, 124, 0),
  (32, 1, .iconst 1, 0, 0, 0, 1),
  (33, 1, .ireturn, 0, 0, 0, 0)]
def mX2_takeLetter : Mth := (yX2_takeLetter, RX2, cX2_takeLetter, 2, (some .boolean), (0, 0, 0), (239, 240, 34, 241), [], tX2_takeLetter, 1)
def tX3_become : List En := [
  (0, 1, .aload_n 1, 0, 0, 0, 0),
  (1, 3, .getfield 9, 3, 0, 63, 0),
  (4, 1, .iconst 0, 0, 0, 0, 0),
  (5, 1, .aload_n 0, 0, 0, 0, 0),
  (6, 3, .getfield 9, 3, 0, 63, 0),
  (9, 1, .iconst 0, 0, 0, 0, 0),
  (10, 1, .iconst 4, 0, 0, 0, 4),
  (11, 3, .invokestatic 34, 0, 1, 358, 0),
  (14, 1, .aload_n 1, 0, 0, 0, 0),
  (15, 3, .getfield 15, 3, 1, 66, 0),
  (18, 1, .iconst 0, 0, 0, 0, 0),
  (19, 1, .aload_n 0, 0, 0, 0, 0),
  (20, 3, .getfield 15, 3, 1, 66, 0),
  (23, 1, .iconst 0, 0, 0, 0, 0),
  (24, 2, .bipush 8, 0, 0, 0, 8),
  (26, 3, .invokestatic 34, 0, 1, 358, 0),
  (29, 1, .aload_n 1, 0, 0, 0, 0),
  (30, 3, .getfield 18, 3, 2, 69, 0),
  (33, 1, .iconst 0, 0, 0, 0, 0),
  (34, 1, .aload_n 0, 0, 0, 0, 0),
  (35, 3, .getfield 18, 3, 2, 69, 0),
  (38, 1, .iconst 0, 0, 0, 0, 0),
  (39, 2, .bipush 8, 0, 0, 0, 8),
  (41, 3, .invokestatic 34, 0, 1, 358, 0),
  (44, 1, .aload_n 1, 0, 0, 0, 0),
  (45, 3, .getfield 21, 3, 3, 72, 0),
  (48, 1, .iconst 0, 0, 0, 0, 0),
  (49, 1, .aload_n 0, 0, 0, 0, 0),
  (50, 3, .getfield 21, 3, 3, 72, 0),
  (53, 1, .iconst 0, 0, 0, 0, 0),
  (54, 2, .bipush 42, 0, 0, 0, 42),
  (56, 3, .invokestatic 34, 0, 1, 358, 0),
  (59, 1, .aload_n 0, 0, 0, 0, 0),
  (60, 1, .aload_n 1, 0, 0, 0, 0),
  (61, 3, .getfield 27, 3, 4, 75, 0),
  (64, 3, .putfield 27, 3, 4, 75, 0),
  (67, 1, .aload_n 0, 0, 0, 0, 0),
  (68, 1, .aload_n 1, 0, 0, 0, 0),
  (69, 3, .getfield 31, 3, 5, 79, 0),
  (72, 3, .putfield 31, 3, 5, 79, 0),
  (75, 1, .return_, 0, 0, 0, 0)]
def mX3_become : Mth := (yX3_become, RX3, cX3_become, 2, none, (1, 0, 0), (355, 356, 32, 357), [], tX3_become, 1)
def tX3_canBeCut : List En := [
  (0, 1, .iload_n 1, 0, 0, 0, 0),
  (1, 1, .iload_n 2, 0, 0, 0, 0),
  (2, 3, .if_icmp .eq 31, 33, 0, 0, 0),
  (5, 1, .aload_n 0, 0, 0, 0, 0),
  (6, 1, .iload_n 1, 0, 0, 0, 0),
  (7, 3, .invokevirtual 68, 60, 0, 418, 0),
  (10, 1, .aload_n 0, 0, 0, 0, 0),
  (11, 1, .iload_n 2, 0, 0, 0, 0),
  (12, 3, .invokevirtual 68, 60, 0, 418, 0),
  (15, 1, .imul, 0, 0, 0, 0),
  (16, 1, .iconst (-1), 0, 0, 0, (-1)),
  (17, 3, .if_icmp .eq 16, 33, 0, 0, 0),
  (20, 1, .aload_n 0, 0, 0, 0, 0),
  (21, 1, .iload_n 1, 0, 0, 0, 0),
  (22, 1, .iload_n 2, 0, 0, 0, 0),
  (23, 3, .invokevirtual 71, 62, 0, 425, 0),
  (26, 3, .ifCond .ne 7, 33, 0, 0, 0),
  (29, 1, .iconst 1, 0, 0, 0, 1),
  (30, 3, .goto 4, 34, 0, 0, 0),
  (33, 1, .iconst 0, 0, 0, 0, 0),
  (34, 1, .ireturn, 0, 0, 0, 0)]
def mX3_canBeCut : Mth := (yX3_canBeCut, RX3, cX3_canBeCut, 3, (some .boolean), (3, 0, 0), (415, 416, 32, 417), [], tX3_canBeCut, 2)
def tX3_coverers : List En := [
  (0, 1, .iconst 0, 0, 0, 0, 0),
  (1, 1, .istore_n 2, 0, 0, 0, 0),
  (2, 1, .iconst 0, 0, 0, 0, 0),
  (3, 1, .istore_n 3, 0, 0, 0, 0),
  (4, 1, .iload_n 3, 0, 0, 0, 0),
  (5, 1, .aload_n 0, 0, 0, 0, 0),
  (6, 3, .getfield 31, 3, 5, 79, 0),
  (9, 3, .if_icmp .ge 24, 33, 0, 0, 0),
  (12, 1, .aload_n 0, 0, 0, 0, 0),
  (13, 1, .iload_n 3, 0, 0, 0, 0),
  (14, 1, .iload_n 1, 0, 0, 0, 0),
  (15, 3, .invokevirtual 44, 45, 0, 449, 0),
  (18, 3, .ifCond .eq 9, 27, 0, 0, 0),
  (21, 1, .iload_n 2, 0, 0, 0, 0),
  (22, 1, .iconst 1, 0, 0, 0, 1),
  (23, 1, .iload_n 3, 0, 0, 0, 0),
  (24, 1, .ishl, 0, 0, 0, 0),
  (25, 1, .ior, 0, 0, 0, 0),
  (26, 1, .istore_n 2, 0, 0, 0, 0),
  (27, 3, .iinc 3 1, 0, 0, 0, 1),
  (30, 3, .goto (-26), 4, 0, 0, 0),
  (33, 1, .iload_n 2, 0, 0, 0, 0),
  (34, 1, .ireturn, 0, 0, 0, 0)]
def mX3_coverers : Mth := (yX3_coverers, RX3, cX3_coverers, 4, (some .int), (2, 0, 0), (446, 447, 32, 448), [4], tX3_coverers, 1)
def tX3_covers : List En := [
  (0, 1, .aload_n 0, 0, 0, 0, 0),
  (1, 1, .iload_n 1, 0, 0, 0, 0),
  (2, 1, .iconst 4, 0, 0, 0, 4),
  (3, 3, .invokevirtual 40, 49, 0, 382, 0),
  (6, 1, .iload_n 2, 0, 0, 0, 0),
  (7, 3, .if_icmp .gt 17, 24, 0, 0, 0),
  (10, 1, .iload_n 2, 0, 0, 0, 0),
  (11, 1, .aload_n 0, 0, 0, 0, 0),
  (12, 1, .iload_n 1, 0, 0, 0, 0),
  (13, 1, .iconst 5, 0, 0, 0, 5),
  (14, 3, .invokevirtual 40, 49, 0, 382, 0),
  (17, 3, .if_icmp .gt 7, 24, 0, 0, 0),
  (20, 1, .iconst 1, 0, 0, 0, 1),
  (21, 3, .goto 4, 25, 0, 0, 0),
  (24, 1, .iconst 0, 0, 0, 0, 0),
  (25, 1, .ireturn, 0, 0, 0, 0)]
def mX3_covers : Mth := (yX3_covers, RX3, cX3_covers, 3, (some .boolean), (1, 0, 0), (379, 380, 32, 381), [], tX3_covers, 2)
def tX3_cuts : List En := [
  (0, 1, .iconst 0, 0, 0, 0, 0),
  (1, 1, .istore_n 1, 0, 0, 0, 0),
  (2, 1, .iconst 1, 0, 0, 0, 1),
  (3, 1, .istore_n 2, 0, 0, 0, 0),
  (4, 1, .iload_n 2, 0, 0, 0, 0),
  (5, 1, .aload_n 0, 0, 0, 0, 0),
  (6, 3, .getfield 27, 3, 4, 75, 0),
  (9, 3, .if_icmp .ge 20, 29, 0, 0, 0),
  (12, 1, .aload_n 0, 0, 0, 0, 0),
  (13, 1, .iload_n 2, 0, 0, 0, 0),
  (14, 3, .invokevirtual 77, 53, 0, 546, 0),
  (17, 3, .ifCond .eq 6, 23, 0, 0, 0),
  (20, 3, .iinc 1 1, 0, 0, 0, 1),
  (23, 3, .iinc 2 1, 0, 0, 0, 1),
  (26, 3, .goto (-22), 4, 0, 0, 0),
  (29, 1, .iload_n 1, 0, 0, 0, 0),
  (30, 1, .ireturn, 0, 0, 0, 0)]
def mX3_cuts : Mth := (yX3_cuts, RX3, cX3_cuts, 3, (some .int), (1, 0, 0), (556, 557, 32, 558), [4], tX3_cuts, 0)
def tX3_doubleReactions : List En := [
  (0, 1, .iconst 0, 0, 0, 0, 0),
  (1, 1, .istore_n 1, 0, 0, 0, 0),
  (2, 1, .iconst 1, 0, 0, 0, 1),
  (3, 1, .istore_n 2, 0, 0, 0, 0),
  (4, 1, .iload_n 2, 0, 0, 0, 0),
  (5, 1, .aload_n 0, 0, 0, 0, 0),
  (6, 3, .getfield 27, 3, 4, 75, 0),
  (9, 3, .if_icmp .ge 44, 53, 0, 0, 0),
  (12, 1, .aload_n 0, 0, 0, 0, 0),
  (13, 1, .iload_n 2, 0, 0, 0, 0),
  (14, 1, .iconst 1, 0, 0, 0, 1),
  (15, 1, .isub, 0, 0, 0, 0),
  (16, 1, .aload_n 0, 0, 0, 0, 0),
  (17, 3, .getfield 18, 3, 2, 69, 0),
  (20, 1, .iload_n 2, 0, 0, 0, 0),
  (21, 1, .iconst 1, 0, 0, 0, 1),
  (22, 1, .isub, 0, 0, 0, 0),
  (23, 1, .iaload, 0, 0, 0, 0),
  (24, 3, .invokevirtual 81, 54, 0, 554, 0),
  (27, 3, .ifCond .eq 20, 47, 0, 0, 0),
  (30, 1, .aload_n 0, 0, 0, 0, 0),
  (31, 1, .iload_n 2, 0, 0, 0, 0),
  (32, 1, .aload_n 0, 0, 0, 0, 0),
  (33, 3, .getfield 18, 3, 2, 69, 0),
  (36, 1, .iload_n 2, 0, 0, 0, 0),
  (37, 1, .iaload, 0, 0, 0, 0),
  (38, 3, .invokevirtual 81, 54, 0, 554, 0),
  (41, 3, .ifCond .eq 6, 47, 0, 0, 0),
  (44, 3, .iinc 1 1, 0, 0, 0, 1),
  (47, 3, .iinc 2 1, 0, 0, 0, 1),
  (50, 3, .goto (-46), 4, 0, 0, 0),
  (53, 1, .iload_n 1, 0, 0, 0, 0),
  (54, 1, .ireturn, 0, 0, 0, 0)]
def mX3_doubleReactions : Mth := (yX3_doubleReactions, RX3, cX3_doubleReactions, 3, (some .int), (2, 0, 0), (551, 552, 32, 553), [4], tX3_doubleReactions, 0)
def tX3_dropShot : List En := [
  (0, 1, .iload_n 1, 0, 0, 0, 0),
  (1, 2, .bipush 7, 0, 0, 0, 7),
  (3, 1, .imul, 0, 0, 0, 0),
  (4, 1, .istore_n 2, 0, 0, 0, 0),
  (5, 1, .iload_n 2, 0, 0, 0, 0),
  (6, 1, .aload_n 0, 0, 0, 0, 0),
  (7, 3, .getfield 31, 3, 5, 79, 0),
  (10, 1, .iconst 1, 0, 0, 0, 1),
  (11, 1, .isub, 0, 0, 0, 0),
  (12, 2, .bipush 7, 0, 0, 0, 7),
  (14, 1, .imul, 0, 0, 0, 0),
  (15, 3, .if_icmp .ge 24, 39, 0, 0, 0),
  (18, 1, .aload_n 0, 0, 0, 0, 0),
  (19, 3, .getfield 21, 3, 3, 72, 0),
  (22, 1, .iload_n 2, 0, 0, 0, 0),
  (23, 1, .aload_n 0, 0, 0, 0, 0),
  (24, 3, .getfield 21, 3, 3, 72, 0),
  (27, 1, .iload_n 2, 0, 0, 0, 0),
  (28, 2, .bipush 7, 0, 0, 0, 7),
  (30, 1, .iadd, 0, 0, 0, 0),
  (31, 1, .iaload, 0, 0, 0, 0),
  (32, 1, .iastore, 0, 0, 0, 0),
  (33, 3, .iinc 2 1, 0, 0, 0, 1),
  (36, 3, .goto (-31), 5, 0, 0, 0),
  (39, 1, .aload_n 0, 0, 0, 0, 0),
  (40, 1, .dup, 0, 0, 0, 0),
  (41, 3, .getfield 31, 3, 5, 79, 0),
  (44, 1, .iconst 1, 0, 0, 0, 1),
  (45, 1, .isub, 0, 0, 0, 0),
  (46, 3, .putfield 31, 3, 5, 79, 0),
  (49, 1, .return_, 0, 0, 0, 0)]
def mX3_dropShot : Mth := (yX3_dropShot, RX3, cX3_dropShot, 3, none, (0, 0, 0), (395, 396, 32, 397), [5], tX3_dropShot, 1)
def tX3_fact : List En := [
  (0, 1, .aload_n 0, 0, 0, 0, 0),
  (1, 3, .getfield 21, 3, 3, 72, 0),
  (4, 1, .iload_n 1, 0, 0, 0, 0),
  (5, 2, .bipush 7, 0, 0, 0, 7),
  (7, 1, .imul, 0, 0, 0, 0),
  (8, 1, .iload_n 2, 0, 0, 0, 0),
  (9, 1, .iadd, 0, 0, 0, 0),
  (10, 1, .iaload, 0, 0, 0, 0),
  (11, 1, .ireturn, 0, 0, 0, 0)]
def mX3_fact : Mth := (yX3_fact, RX3, cX3_fact, 3, (some .int), (0, 0, 0), (383, 384, 32, 385), [], tX3_fact, 2)
def tX3_hasLine : List En := [
  (0, 1, .iload_n 1, 0, 0, 0, 0),
  (1, 3, .ifCond .lt 15, 16, 0, 0, 0),
  (4, 1, .iload_n 1, 0, 0, 0, 0),
  (5, 1, .aload_n 0, 0, 0, 0, 0),
  (6, 3, .getfield 27, 3, 4, 75, 0),
  (9, 3, .if_icmp .ge 7, 16, 0, 0, 0),
  (12, 1, .iconst 1, 0, 0, 0, 1),
  (13, 3, .goto 4, 17, 0, 0, 0),
  (16, 1, .iconst 0, 0, 0, 0, 0),
  (17, 1, .ireturn, 0, 0, 0, 0)]
def mX3_hasLine : Mth := (yX3_hasLine, RX3, cX3_hasLine, 2, (some .boolean), (0, 0, 0), (371, 372, 32, 373), [], tX3_hasLine, 1)
def tX3_hasShot : List En := [
  (0, 1, .iload_n 1, 0, 0, 0, 0),
  (1, 3, .ifCond .lt 15, 16, 0, 0, 0),
  (4, 1, .iload_n 1, 0, 0, 0, 0),
  (5, 1, .aload_n 0, 0, 0, 0, 0),
  (6, 3, .getfield 31, 3, 5, 79, 0),
  (9, 3, .if_icmp .ge 7, 16, 0, 0, 0),
  (12, 1, .iconst 1, 0, 0, 0, 1),
  (13, 3, .goto 4, 17, 0, 0, 0),
  (16, 1, .iconst 0, 0, 0, 0, 0),
  (17, 1, .ireturn, 0, 0, 0, 0)]
def mX3_hasShot : Mth := (yX3_hasShot, RX3, cX3_hasShot, 2, (some .boolean), (0, 0, 0), (375, 376, 32, 377), [], tX3_hasShot, 1)
def tX3_init : List En := [
  (0, 1, .aload_n 0, 0, 0, 0, 0),
  (1, 3, .invokespecial 3, 0, 2, 58, 0),
  (4, 1, .aload_n 0, 0, 0, 0, 0),
  (5, 1, .iconst 4, 0, 0, 0, 4),
  (6, 2, .newarray .int, 0, 0, 0, 0),
  (8, 3, .putfield 9, 3, 0, 63, 0),
  (11, 1, .aload_n 0, 0, 0, 0, 0),
  (12, 2, .bipush 8, 0, 0, 0, 8),
  (14, 2, .newarray .int, 0, 0, 0, 0),
  (16, 3, .putfield 15, 3, 1, 66, 0),
  (19, 1, .aload_n 0, 0, 0, 0, 0),
  (20, 2, .bipush 8, 0, 0, 0, 8),
  (22, 2, .newarray .int, 0, 0, 0, 0),
  (24, 3, .putfield 18, 3, 2, 69, 0),
  (27, 1, .aload_n 0, 0, 0, 0, 0),
  (28, 2, .bipush 42, 0, 0, 0, 42),
  (30, 2, .newarray .int, 0, 0, 0, 0),
  (32, 3, .putfield 21, 3, 3, 72, 0),
  (35, 1, .aload_n 0, 0, 0, 0, 0),
  (36, 3, .invokevirtual 24, 61, 0, 59, 0),
  (39, 1, .return_, 0, 0, 0, 0)]
def mX3_init : Mth := (yX3_init, RX3, cX3_init, 1, none, (1, 10, 100), (56, 0, 32, 57), [], tX3_init, 0)
def tX3_isCutAhead : List En := [
  (0, 1, .aload_n 0, 0, 0, 0, 0),
  (1, 3, .getfield 18, 3, 2, 69, 0),
  (4, 1, .iload_n 1, 0, 0, 0, 0),
  (5, 1, .iconst 1, 0, 0, 0, 1),
  (6, 1, .isub, 0, 0, 0, 0),
  (7, 1, .iaload, 0, 0, 0, 0),
  (8, 1, .istore_n 2, 0, 0, 0, 0),
  (9, 1, .aload_n 0, 0, 0, 0, 0),
  (10, 3, .getfield 18, 3, 2, 69, 0),
  (13, 1, .iload_n 1, 0, 0, 0, 0),
  (14, 1, .iaload, 0, 0, 0, 0),
  (15, 1, .istore_n 3, 0, 0, 0, 0),
  (16, 1, .iload_n 2, 0, 0, 0, 0),
  (17, 2, .bipush (-9), 0, 0, 0, (-9)),
  (19, 3, .if_icmp .eq 18, 37, 0, 0, 0),
  (22, 1, .iload_n 3, 0, 0, 0, 0),
  (23, 2, .bipush (-9), 0, 0, 0, (-9)),
  (25, 3, .if_icmp .eq 12, 37, 0, 0, 0),
  (28, 1, .iload_n 2, 0, 0, 0, 0),
  (29, 1, .iload_n 3, 0, 0, 0, 0),
  (30, 3, .if_icmp .eq 7, 37, 0, 0, 0),
  (33, 1, .iconst 1, 0, 0, 0, 1),
  (34, 3, .goto 4, 38, 0, 0, 0),
  (37, 1, .iconst 0, 0, 0, 0, 0),
  (38, 1, .ireturn, 0, 0, 0, 0)]
def mX3_isCutAhead : Mth := (yX3_isCutAhead, RX3, cX3_isCutAhead, 4, (some .boolean), (0, 0, 0), (547, 548, 32, 549), [], tX3_isCutAhead, 1)
def tX3_isReaction : List En := [
  (0, 1, .iload_n 2, 0, 0, 0, 0),
  (1, 2, .bipush (-9), 0, 0, 0, (-9)),
  (3, 3, .if_icmp .eq 24, 27, 0, 0, 0),
  (6, 1, .aload_n 0, 0, 0, 0, 0),
  (7, 1, .iload_n 2, 0, 0, 0, 0),
  (8, 1, .iconst 2, 0, 0, 0, 2),
  (9, 3, .invokevirtual 40, 49, 0, 382, 0),
  (12, 1, .iconst 1, 0, 0, 0, 1),
  (13, 1, .aload_n 0, 0, 0, 0, 0),
  (14, 3, .getfield 15, 3, 1, 66, 0),
  (17, 1, .iload_n 1, 0, 0, 0, 0),
  (18, 1, .iaload, 0, 0, 0, 0),
  (19, 1, .isub, 0, 0, 0, 0),
  (20, 3, .if_icmp .ne 7, 27, 0, 0, 0),
  (23, 1, .iconst 1, 0, 0, 0, 1),
  (24, 3, .goto 4, 28, 0, 0, 0),
  (27, 1, .iconst 0, 0, 0, 0, 0),
  (28, 1, .ireturn, 0, 0, 0, 0)]
def mX3_isReaction : Mth := (yX3_isReaction, RX3, cX3_isReaction, 3, (some .boolean), (1, 0, 0), (455, 456, 32, 457), [], tX3_isReaction, 2)
def tX3_linesWithoutShot : List En := [
  (0, 1, .iconst 0, 0, 0, 0, 0),
  (1, 1, .istore_n 1, 0, 0, 0, 0),
  (2, 1, .iconst 0, 0, 0, 0, 0),
  (3, 1, .istore_n 2, 0, 0, 0, 0),
  (4, 1, .iload_n 2, 0, 0, 0, 0),
  (5, 1, .aload_n 0, 0, 0, 0, 0),
  (6, 3, .getfield 27, 3, 4, 75, 0),
  (9, 3, .if_icmp .ge 23, 32, 0, 0, 0),
  (12, 1, .aload_n 0, 0, 0, 0, 0),
  (13, 3, .getfield 18, 3, 2, 69, 0),
  (16, 1, .iload_n 2, 0, 0, 0, 0),
  (17, 1, .iaload, 0, 0, 0, 0),
  (18, 2, .bipush (-9), 0, 0, 0, (-9)),
  (20, 3, .if_icmp .ne 6, 26, 0, 0, 0),
  (23, 3, .iinc 1 1, 0, 0, 0, 1),
  (26, 3, .iinc 2 1, 0, 0, 0, 1),
  (29, 3, .goto (-25), 4, 0, 0, 0),
  (32, 1, .iload_n 1, 0, 0, 0, 0),
  (33, 1, .ireturn, 0, 0, 0, 0)]
def mX3_linesWithoutShot : Mth := (yX3_linesWithoutShot, RX3, cX3_linesWithoutShot, 3, (some .int), (0, 0, 0), (539, 540, 32, 541), [4], tX3_linesWithoutShot, 0)
def tX3_loseShotInEdit : List En := [
  (0, 1, .iconst 0, 0, 0, 0, 0),
  (1, 1, .istore_n 2, 0, 0, 0, 0),
  (2, 1, .iconst 0, 0, 0, 0, 0),
  (3, 1, .istore_n 3, 0, 0, 0, 0),
  (4, 1, .iload_n 3, 0, 0, 0, 0),
  (5, 1, .aload_n 0, 0, 0, 0, 0),
  (6, 3, .getfield 27, 3, 4, 75, 0),
  (9, 3, .if_icmp .ge 53, 62, 0, 0, 0),
  (12, 1, .aload_n 0, 0, 0, 0, 0),
  (13, 3, .getfield 18, 3, 2, 69, 0),
  (16, 1, .iload_n 3, 0, 0, 0, 0),
  (17, 1, .iaload, 0, 0, 0, 0),
  (18, 1, .iload_n 1, 0, 0, 0, 0),
  (19, 3, .if_icmp .ne 17, 36, 0, 0, 0),
  (22, 1, .aload_n 0, 0, 0, 0, 0),
  (23, 3, .getfield 18, 3, 2, 69, 0),
  (26, 1, .iload_n 3, 0, 0, 0, 0),
  (27, 2, .bipush (-9), 0, 0, 0, (-9)),
  (29, 1, .iastore, 0, 0, 0, 0),
  (30, 3, .iinc 2 1, 0, 0, 0, 1),
  (33, 3, .goto 23, 56, 0, 0, 0),
  (36, 1, .aload_n 0, 0, 0, 0, 0),
  (37, 3, .getfield 18, 3, 2, 69, 0),
  (40, 1, .iload_n 3, 0, 0, 0, 0),
  (41, 1, .iaload, 0, 0, 0, 0),
  (42, 1, .iload_n 1, 0, 0, 0, 0),
  (43, 3, .if_icmp .le 13, 56, 0, 0, 0),
  (46, 1, .aload_n 0, 0, 0, 0, 0),
  (47, 3, .getfield 18, 3, 2, 69, 0),
  (50, 1, .iload_n 3, 0, 0, 0, 0),
  (51, 1, .dup2, 0, 0, 0, 0),
  (52, 1, .iaload, 0, 0, 0, 0),
  (53, 1, .iconst 1, 0, 0, 0, 1),
  (54, 1, .isub, 0, 0, 0, 0),
  (55, 1, .iastore, 0, 0, 0, 0),
  (56, 3, .iinc 3 1, 0, 0, 0, 1),
  (59, 3, .goto (-55), 4, 0, 0, 0),
  (62, 1, .iload_n 2, 0, 0, 0, 0),
  (63, 1, .ireturn, 0, 0, 0, 0)]
def mX3_loseShotInEdit : Mth := (yX3_loseShotInEdit, RX3, cX3_loseShotInEdit, 4, (some .int), (0, 0, 0), (399, 400, 32, 401), [4], tX3_loseShotInEdit, 1)
def tX3_near : List En := [
  (0, 1, .aload_n 0, 0, 0, 0, 0),
  (1, 1, .iload_n 1, 0, 0, 0, 0),
  (2, 3, .invokevirtual 54, 63, 0, 436, 0),
  (5, 1, .istore_n 3, 0, 0, 0, 0),
  (6, 1, .aload_n 0, 0, 0, 0, 0),
  (7, 1, .iload_n 1, 0, 0, 0, 0),
  (8, 3, .invokevirtual 57, 64, 0, 440, 0),
  (11, 2, .istore 4, 0, 0, 0, 0),
  (13, 1, .aload_n 0, 0, 0, 0, 0),
  (14, 1, .iload_n 2, 0, 0, 0, 0),
  (15, 3, .invokevirtual 54, 63, 0, 436, 0),
  (18, 2, .istore 5, 0, 0, 0, 0),
  (20, 1, .aload_n 0, 0, 0, 0, 0),
  (21, 1, .iload_n 2, 0, 0, 0, 0),
  (22, 3, .invokevirtual 57, 64, 0, 440, 0),
  (25, 2, .istore 6, 0, 0, 0, 0),
  (27, 1, .iload_n 3, 0, 0, 0, 0),
  (28, 1, .iload_n 3, 0, 0, 0, 0),
  (29, 1, .imul, 0, 0, 0, 0),
  (30, 2, .iload 4, 0, 0, 0, 0),
  (32, 2, .iload 4, 0, 0, 0, 0),
  (34, 1, .imul, 0, 0, 0, 0),
  (35, 1, .iadd, 0, 0, 0, 0),
  (36, 2, .iload 5, 0, 0, 0, 0),
  (38, 2, .iload 5, 0, 0, 0, 0),
  (40, 1, .imul, 0, 0, 0, 0),
  (41, 2, .iload 6, 0, 0, 0, 0),
  (43, 2, .iload 6, 0, 0, 0, 0),
  (45, 1, .imul, 0, 0, 0, 0),
  (46, 1, .iadd, 0, 0, 0, 0),
  (47, 1, .imul, 0, 0, 0, 0),
  (48, 2, .istore 7, 0, 0, 0, 0),
  (50, 2, .iload 7, 0, 0, 0, 0),
  (52, 3, .ifCond .ne 5, 57, 0, 0, 0),
  (55, 1, .iconst 1, 0, 0, 0, 1),
  (56, 1, .ireturn, 0, 0, 0, 0),
  (57, 1, .iload_n 3, 0, 0, 0, 0),
  (58, 2, .iload 5, 0, 0, 0, 0),
  (60, 1, .imul, 0, 0, 0, 0),
  (61, 2, .iload 4, 0, 0, 0, 0),
  (63, 2, .iload 6, 0, 0, 0, 0),
  (65, 1, .imul, 0, 0, 0, 0),
  (66, 1, .iadd, 0, 0, 0, 0),
  (67, 2, .istore 8, 0, 0, 0, 0),
  (69, 2, .iload 8, 0, 0, 0, 0),
  (71, 3, .ifCond .le 21, 92, 0, 0, 0),
  (74, 1, .iconst 4, 0, 0, 0, 4),
  (75, 2, .iload 8, 0, 0, 0, 0),
  (77, 1, .imul, 0, 0, 0, 0),
  (78, 2, .iload 8, 0, 0, 0, 0),
  (80, 1, .imul, 0, 0, 0, 0),
  (81, 1, .iconst 3, 0, 0, 0, 3),
  (82, 2, .iload 7, 0, 0, 0, 0),
  (84, 1, .imul, 0, 0, 0, 0),
  (85, 3, .if_icmp .le 7, 92, 0, 0, 0),
  (88, 1, .iconst 1, 0, 0, 0, 1),
  (89, 3, .goto 4, 93, 0, 0, 0),
  (92, 1, .iconst 0, 0, 0, 0, 0),
  (93, 1, .ireturn, 0, 0, 0, 0)]
def mX3_near : Mth := (yX3_near, RX3, cX3_near, 9, (some .boolean), (1, 0, 0), (433, 434, 32, 435), [], tX3_near, 2)
def tX3_partners : List En := [
  (0, 1, .iconst 0, 0, 0, 0, 0),
  (1, 1, .istore_n 2, 0, 0, 0, 0),
  (2, 1, .iconst 0, 0, 0, 0, 0),
  (3, 1, .istore_n 3, 0, 0, 0, 0),
  (4, 1, .iload_n 3, 0, 0, 0, 0),
  (5, 1, .aload_n 0, 0, 0, 0, 0),
  (6, 3, .getfield 31, 3, 5, 79, 0),
  (9, 3, .if_icmp .ge 24, 33, 0, 0, 0),
  (12, 1, .aload_n 0, 0, 0, 0, 0),
  (13, 1, .iload_n 1, 0, 0, 0, 0),
  (14, 1, .iload_n 3, 0, 0, 0, 0),
  (15, 3, .invokevirtual 74, 43, 0, 414, 0),
  (18, 3, .ifCond .eq 9, 27, 0, 0, 0),
  (21, 1, .iload_n 2, 0, 0, 0, 0),
  (22, 1, .iconst 1, 0, 0, 0, 1),
  (23, 1, .iload_n 3, 0, 0, 0, 0),
  (24, 1, .ishl, 0, 0, 0, 0),
  (25, 1, .ior, 0, 0, 0, 0),
  (26, 1, .istore_n 2, 0, 0, 0, 0),
  (27, 3, .iinc 3 1, 0, 0, 0, 1),
  (30, 3, .goto (-26), 4, 0, 0, 0),
  (33, 1, .iload_n 2, 0, 0, 0, 0),
  (34, 1, .ireturn, 0, 0, 0, 0)]
def mX3_partners : Mth := (yX3_partners, RX3, cX3_partners, 4, (some .int), (4, 0, 0), (411, 412, 32, 413), [4], tX3_partners, 1)
def tX3_shotsUsed : List En := [
  (0, 1, .iconst 0, 0, 0, 0, 0),
  (1, 1, .istore_n 1, 0, 0, 0, 0),
  (2, 1, .iconst 0, 0, 0, 0, 0),
  (3, 1, .istore_n 2, 0, 0, 0, 0),
  (4, 1, .iload_n 2, 0, 0, 0, 0),
  (5, 1, .aload_n 0, 0, 0, 0, 0),
  (6, 3, .getfield 27, 3, 4, 75, 0),
  (9, 3, .if_icmp .ge 31, 40, 0, 0, 0),
  (12, 1, .aload_n 0, 0, 0, 0, 0),
  (13, 3, .getfield 18, 3, 2, 69, 0),
  (16, 1, .iload_n 2, 0, 0, 0, 0),
  (17, 1, .iaload, 0, 0, 0, 0),
  (18, 2, .bipush (-9), 0, 0, 0, (-9)),
  (20, 3, .if_icmp .eq 14, 34, 0, 0, 0),
  (23, 1, .iload_n 1, 0, 0, 0, 0),
  (24, 1, .iconst 1, 0, 0, 0, 1),
  (25, 1, .aload_n 0, 0, 0, 0, 0),
  (26, 3, .getfield 18, 3, 2, 69, 0),
  (29, 1, .iload_n 2, 0, 0, 0, 0),
  (30, 1, .iaload, 0, 0, 0, 0),
  (31, 1, .ishl, 0, 0, 0, 0),
  (32, 1, .ior, 0, 0, 0, 0),
  (33, 1, .istore_n 1, 0, 0, 0, 0),
  (34, 3, .iinc 2 1, 0, 0, 0, 1),
  (37, 3, .goto (-33), 4, 0, 0, 0),
  (40, 1, .iload_n 1, 0, 0, 0, 0),
  (41, 3, .invokestatic 84, 7, 0, 563, 0),
  (44, 1, .ireturn, 0, 0, 0, 0)]
def mX3_shotsUsed : Mth := (yX3_shotsUsed, RX3, cX3_shotsUsed, 3, (some .int), (1, 0, 0), (560, 561, 32, 562), [4], tX3_shotsUsed, 0)
def tX3_side : List En := [
  (0, 1, .aload_n 0, 0, 0, 0, 0),
  (1, 3, .getfield 9, 3, 0, 63, 0),
  (4, 1, .iconst 2, 0, 0, 0, 2),
  (5, 1, .iaload, 0, 0, 0, 0),
  (6, 1, .aload_n 0, 0, 0, 0, 0),
  (7, 3, .getfield 9, 3, 0, 63, 0),
  (10, 1, .iconst 0, 0, 0, 0, 0),
  (11, 1, .iaload, 0, 0, 0, 0),
  (12, 1, .isub, 0, 0, 0, 0),
  (13, 1, .istore_n 2, 0, 0, 0, 0),
  (14, 1, .aload_n 0, 0, 0, 0, 0),
  (15, 3, .getfield 9, 3, 0, 63, 0),
  (18, 1, .iconst 3, 0, 0, 0, 3),
  (19, 1, .iaload, 0, 0, 0, 0),
  (20, 1, .aload_n 0, 0, 0, 0, 0),
  (21, 3, .getfield 9, 3, 0, 63, 0),
  (24, 1, .iconst 1, 0, 0, 0, 1),
  (25, 1, .iaload, 0, 0, 0, 0),
  (26, 1, .isub, 0, 0, 0, 0),
  (27, 1, .istore_n 3, 0, 0, 0, 0),
  (28, 1, .aload_n 0, 0, 0, 0, 0),
  (29, 1, .iload_n 1, 0, 0, 0, 0),
  (30, 1, .iconst 0, 0, 0, 0, 0),
  (31, 3, .invokevirtual 40, 49, 0, 382, 0),
  (34, 1, .aload_n 0, 0, 0, 0, 0),
  (35, 3, .getfield 9, 3, 0, 63, 0),
  (38, 1, .iconst 0, 0, 0, 0, 0),
  (39, 1, .iaload, 0, 0, 0, 0),
  (40, 1, .isub, 0, 0, 0, 0),
  (41, 2, .istore 4, 0, 0, 0, 0),
  (43, 1, .aload_n 0, 0, 0, 0, 0),
  (44, 1, .iload_n 1, 0, 0, 0, 0),
  (45, 1, .iconst 1, 0, 0, 0, 1),
  (46, 3, .invokevirtual 40, 49, 0, 382, 0),
  (49, 1, .aload_n 0, 0, 0, 0, 0),
  (50, 3, .getfield 9, 3, 0, 63, 0),
  (53, 1, .iconst 1, 0, 0, 0, 1),
  (54, 1, .iaload, 0, 0, 0, 0),
  (55, 1, .isub, 0, 0, 0, 0),
  (56, 2, .istore 5, 0, 0, 0, 0),
  (58, 1, .iload_n 2, 0, 0, 0, 0),
  (59, 2, .iload 5, 0, 0, 0, 0),
  (61, 1, .imul, 0, 0, 0, 0),
  (62, 1, .iload_n 3, 0, 0, 0, 0),
  (63, 2, .iload 4, 0, 0, 0, 0),
  (65, 1, .imul, 0, 0, 0, 0),
  (66, 1, .isub, 0, 0, 0, 0),
  (67, 3, .invokestatic 48, 9, 0, 422, 0),
  (70, 1, .ireturn, 0, 0, 0, 0)]
def mX3_side : Mth := (yX3_side, RX3, cX3_side, 6, (some .int), (1, 0, 0), (419, 420, 32, 421), [], tX3_side, 1)
def tX3_startAnew : List En := [
  (0, 1, .aload_n 0, 0, 0, 0, 0),
  (1, 3, .getfield 9, 3, 0, 63, 0),
  (4, 1, .iconst 0, 0, 0, 0, 0),
  (5, 1, .iconst 3, 0, 0, 0, 3),
  (6, 1, .iastore, 0, 0, 0, 0),
  (7, 1, .aload_n 0, 0, 0, 0, 0),
  (8, 3, .getfield 9, 3, 0, 63, 0),
  (11, 1, .iconst 1, 0, 0, 0, 1),
  (12, 1, .iconst 5, 0, 0, 0, 5),
  (13, 1, .iastore, 0, 0, 0, 0),
  (14, 1, .aload_n 0, 0, 0, 0, 0),
  (15, 3, .getfield 9, 3, 0, 63, 0),
  (18, 1, .iconst 2, 0, 0, 0, 2),
  (19, 2, .bipush 6, 0, 0, 0, 6),
  (21, 1, .iastore, 0, 0, 0, 0),
  (22, 1, .aload_n 0, 0, 0, 0, 0),
  (23, 3, .getfield 9, 3, 0, 63, 0),
  (26, 1, .iconst 3, 0, 0, 0, 3),
  (27, 1, .iconst 5, 0, 0, 0, 5),
  (28, 1, .iastore, 0, 0, 0, 0),
  (29, 1, .iconst 0, 0, 0, 0, 0),
  (30, 1, .istore_n 1, 0, 0, 0, 0),
  (31, 1, .iload_n 1, 0, 0, 0, 0),
  (32, 2, .bipush 8, 0, 0, 0, 8),
  (34, 3, .if_icmp .ge 17, 51, 0, 0, 0),
  (37, 1, .aload_n 0, 0, 0, 0, 0),
  (38, 3, .getfield 18, 3, 2, 69, 0),
  (41, 1, .iload_n 1, 0, 0, 0, 0),
  (42, 2, .bipush (-9), 0, 0, 0, (-9)),
  (44, 1, .iastore, 0, 0, 0, 0),
  (45, 3, .iinc 1 1, 0, 0, 0, 1),
  (48, 3, .goto (-17), 31, 0, 0, 0),
  (51, 1, .aload_n 0, 0, 0, 0, 0),
  (52, 1, .iconst 0, 0, 0, 0, 0),
  (53, 3, .putfield 27, 3, 4, 75, 0),
  (56, 1, .aload_n 0, 0, 0, 0, 0),
  (57, 1, .iconst 0, 0, 0, 0, 0),
  (58, 3, .putfield 31, 3, 5, 79, 0),
  (61, 1, .return_, 0, 0, 0, 0)]
def mX3_startAnew : Mth := (yX3_startAnew, RX3, cX3_startAnew, 2, none, (0, 0, 0), (60, 61, 32, 62), [31], tX3_startAnew, 0)
def tX3_tooLike : List En := [
  (0, 1, .aload_n 0, 0, 0, 0, 0),
  (1, 1, .iload_n 1, 0, 0, 0, 0),
  (2, 1, .iconst 2, 0, 0, 0, 2),
  (3, 3, .invokevirtual 40, 49, 0, 382, 0),
  (6, 1, .aload_n 0, 0, 0, 0, 0),
  (7, 1, .iload_n 2, 0, 0, 0, 0),
  (8, 1, .iconst 2, 0, 0, 0, 2),
  (9, 3, .invokevirtual 40, 49, 0, 382, 0),
  (12, 3, .if_icmp .ne 36, 48, 0, 0, 0),
  (15, 1, .aload_n 0, 0, 0, 0, 0),
  (16, 1, .iload_n 1, 0, 0, 0, 0),
  (17, 1, .iconst 3, 0, 0, 0, 3),
  (18, 3, .invokevirtual 40, 49, 0, 382, 0),
  (21, 1, .aload_n 0, 0, 0, 0, 0),
  (22, 1, .iload_n 2, 0, 0, 0, 0),
  (23, 1, .iconst 3, 0, 0, 0, 3),
  (24, 3, .invokevirtual 40, 49, 0, 382, 0),
  (27, 1, .isub, 0, 0, 0, 0),
  (28, 3, .invokestatic 60, 0, 2, 429, 0),
  (31, 1, .iconst 2, 0, 0, 0, 2),
  (32, 3, .if_icmp .ge 16, 48, 0, 0, 0),
  (35, 1, .aload_n 0, 0, 0, 0, 0),
  (36, 1, .iload_n 1, 0, 0, 0, 0),
  (37, 1, .iload_n 2, 0, 0, 0, 0),
  (38, 3, .invokevirtual 65, 57, 0, 432, 0),
  (41, 3, .ifCond .eq 7, 48, 0, 0, 0),
  (44, 1, .iconst 1, 0, 0, 0, 1),
  (45, 3, .goto 4, 49, 0, 0, 0),
  (48, 1, .iconst 0, 0, 0, 0, 0),
  (49, 1, .ireturn, 0, 0, 0, 0)]
def mX3_tooLike : Mth := (yX3_tooLike, RX3, cX3_tooLike, 3, (some .boolean), (2, 0, 0), (426, 427, 32, 428), [], tX3_tooLike, 2)
def tX3_wayX : List En := [
  (0, 1, .iconst 2, 0, 0, 0, 2),
  (1, 1, .aload_n 0, 0, 0, 0, 0),
  (2, 3, .getfield 21, 3, 3, 72, 0),
  (5, 1, .iload_n 1, 0, 0, 0, 0),
  (6, 2, .bipush 7, 0, 0, 0, 7),
  (8, 1, .imul, 0, 0, 0, 0),
  (9, 1, .iconst 0, 0, 0, 0, 0),
  (10, 1, .iadd, 0, 0, 0, 0),
  (11, 1, .iaload, 0, 0, 0, 0),
  (12, 1, .imul, 0, 0, 0, 0),
  (13, 1, .aload_n 0, 0, 0, 0, 0),
  (14, 3, .getfield 9, 3, 0, 63, 0),
  (17, 1, .iconst 0, 0, 0, 0, 0),
  (18, 1, .iaload, 0, 0, 0, 0),
  (19, 1, .isub, 0, 0, 0, 0),
  (20, 1, .aload_n 0, 0, 0, 0, 0),
  (21, 3, .getfield 9, 3, 0, 63, 0),
  (24, 1, .iconst 2, 0, 0, 0, 2),
  (25, 1, .iaload, 0, 0, 0, 0),
  (26, 1, .isub, 0, 0, 0, 0),
  (27, 1, .ireturn, 0, 0, 0, 0)]
def mX3_wayX : Mth := (yX3_wayX, RX3, cX3_wayX, 2, (some .int), (0, 0, 0), (437, 438, 32, 439), [], tX3_wayX, 1)
def tX3_wayY : List En := [
  (0, 1, .iconst 2, 0, 0, 0, 2),
  (1, 1, .aload_n 0, 0, 0, 0, 0),
  (2, 3, .getfield 21, 3, 3, 72, 0),
  (5, 1, .iload_n 1, 0, 0, 0, 0),
  (6, 2, .bipush 7, 0, 0, 0, 7),
  (8, 1, .imul, 0, 0, 0, 0),
  (9, 1, .iconst 1, 0, 0, 0, 1),
  (10, 1, .iadd, 0, 0, 0, 0),
  (11, 1, .iaload, 0, 0, 0, 0),
  (12, 1, .imul, 0, 0, 0, 0),
  (13, 1, .aload_n 0, 0, 0, 0, 0),
  (14, 3, .getfield 9, 3, 0, 63, 0),
  (17, 1, .iconst 1, 0, 0, 0, 1),
  (18, 1, .iaload, 0, 0, 0, 0),
  (19, 1, .isub, 0, 0, 0, 0),
  (20, 1, .aload_n 0, 0, 0, 0, 0),
  (21, 3, .getfield 9, 3, 0, 63, 0),
  (24, 1, .iconst 3, 0, 0, 0, 3),
  (25, 1, .iaload, 0, 0, 0, 0),
  (26, 1, .isub, 0, 0, 0, 0),
  (27, 1, .ireturn, 0, 0, 0, 0)]
def mX3_wayY : Mth := (yX3_wayY, RX3, cX3_wayY, 2, (some .int), (0, 0, 0), (441, 442, 32, 443), [], tX3_wayY, 1)
def tX3_wrongCuts : List En := [
  (0, 1, .iconst 0, 0, 0, 0, 0),
  (1, 1, .istore_n 1, 0, 0, 0, 0),
  (2, 1, .iconst 1, 0, 0, 0, 1),
  (3, 1, .istore_n 2, 0, 0, 0, 0),
  (4, 1, .iload_n 2, 0, 0, 0, 0),
  (5, 1, .aload_n 0, 0, 0, 0, 0),
  (6, 3, .getfield 27, 3, 4, 75, 0),
  (9, 3, .if_icmp .ge 41, 50, 0, 0, 0),
  (12, 1, .aload_n 0, 0, 0, 0, 0),
  (13, 1, .iload_n 2, 0, 0, 0, 0),
  (14, 3, .invokevirtual 77, 53, 0, 546, 0),
  (17, 3, .ifCond .eq 27, 44, 0, 0, 0),
  (20, 1, .aload_n 0, 0, 0, 0, 0),
  (21, 1, .aload_n 0, 0, 0, 0, 0),
  (22, 3, .getfield 18, 3, 2, 69, 0),
  (25, 1, .iload_n 2, 0, 0, 0, 0),
  (26, 1, .iconst 1, 0, 0, 0, 1),
  (27, 1, .isub, 0, 0, 0, 0),
  (28, 1, .iaload, 0, 0, 0, 0),
  (29, 1, .aload_n 0, 0, 0, 0, 0),
  (30, 3, .getfield 18, 3, 2, 69, 0),
  (33, 1, .iload_n 2, 0, 0, 0, 0),
  (34, 1, .iaload, 0, 0, 0, 0),
  (35, 3, .invokevirtual 74, 43, 0, 414, 0),
  (38, 3, .ifCond .ne 6, 44, 0, 0, 0),
  (41, 3, .iinc 1 1, 0, 0, 0, 1),
  (44, 3, .iinc 2 1, 0, 0, 0, 1),
  (47, 3, .goto (-43), 4, 0, 0, 0),
  (50, 1, .iload_n 1, 0, 0, 0, 0),
  (51, 1, .ireturn, 0, 0, 0, 0)]
def mX3_wrongCuts : Mth := (yX3_wrongCuts, RX3, cX3_wrongCuts, 3, (some .int), (4, 0, 0), (543, 544, 32, 545), [4], tX3_wrongCuts, 0)
def tX4_dropAll : List En := [
  (0, 1, .aload_n 0, 0, 0, 0, 0),
  (1, 3, .getfield 18, 4, 2, 199, 0),
  (4, 1, .istore_n 1, 0, 0, 0, 0),
  (5, 1, .aload_n 0, 0, 0, 0, 0),
  (6, 1, .iconst 0, 0, 0, 0, 0),
  (7, 3, .putfield 18, 4, 2, 199, 0),
  (10, 1, .iload_n 1, 0, 0, 0, 0),
  (11, 1, .ireturn, 0, 0, 0, 0)]
def mX4_dropAll : Mth := (yX4_dropAll, RX4, cX4_dropAll, 2, (some .int), (0, 0, 0), (604, 605, 36, 606), [], tX4_dropAll, 0)
def tX4_fits : List En := [
  (0, 1, .iconst 0, 0, 0, 0, 0),
  (1, 1, .istore_n 3, 0, 0, 0, 0),
  (2, 1, .iload_n 3, 0, 0, 0, 0),
  (3, 1, .aload_n 0, 0, 0, 0, 0),
  (4, 3, .getfield 18, 4, 2, 199, 0),
  (7, 3, .if_icmp .ge 32, 39, 0, 0, 0),
  (10, 1, .aload_n 0, 0, 0, 0, 0),
  (11, 1, .aload_n 1, 0, 0, 0, 0),
  (12, 1, .iload_n 2, 0, 0, 0, 0),
  (13, 1, .aload_n 0, 0, 0, 0, 0),
  (14, 3, .getfield 9, 4, 0, 197, 0),
  (17, 1, .iload_n 3, 0, 0, 0, 0),
  (18, 1, .iaload, 0, 0, 0, 0),
  (19, 3, .invokevirtual 31, 70, 0, 619, 0),
  (22, 1, .aload_n 0, 0, 0, 0, 0),
  (23, 3, .getfield 15, 4, 1, 198, 0),
  (26, 1, .iload_n 3, 0, 0, 0, 0),
  (27, 1, .iaload, 0, 0, 0, 0),
  (28, 3, .if_icmp .eq 5, 33, 0, 0, 0),
  (31, 1, .iconst 0, 0, 0, 0, 0),
  (32, 1, .ireturn, 0, 0, 0, 0),
  (33, 3, .iinc 3 1, 0, 0, 0, 1),
  (36, 3, .goto (-34), 2, 0, 0, 0),
  (39, 1, .iconst 1, 0, 0, 0, 1),
  (40, 1, .ireturn, 0, 0, 0, 0)]
def mX4_fits : Mth := (yX4_fits, RX4, cX4_fits, 4, (some .boolean), (3, 0, 0), (616, 617, 36, 618), [2], tX4_fits, 2)
def tX4_fitting : List En := [
  (0, 1, .iconst 0, 0, 0, 0, 0),
  (1, 1, .istore_n 2, 0, 0, 0, 0),
  (2, 1, .iconst 0, 0, 0, 0, 0),
  (3, 1, .istore_n 3, 0, 0, 0, 0),
  (4, 1, .iload_n 3, 0, 0, 0, 0),
  (5, 1, .aload_n 1, 0, 0, 0, 0),
  (6, 3, .getfield 22, 3, 5, 80, 0),
  (9, 3, .if_icmp .ge 24, 33, 0, 0, 0),
  (12, 1, .aload_n 0, 0, 0, 0, 0),
  (13, 1, .aload_n 1, 0, 0, 0, 0),
  (14, 1, .iload_n 3, 0, 0, 0, 0),
  (15, 3, .invokevirtual 27, 67, 0, 615, 0),
  (18, 3, .ifCond .eq 9, 27, 0, 0, 0),
  (21, 1, .iload_n 2, 0, 0, 0, 0),
  (22, 1, .iconst 1, 0, 0, 0, 1),
  (23, 1, .iload_n 3, 0, 0, 0, 0),
  (24, 1, .ishl, 0, 0, 0, 0),
  (25, 1, .ior, 0, 0, 0, 0),
  (26, 1, .istore_n 2, 0, 0, 0, 0),
  (27, 3, .iinc 3 1, 0, 0, 0, 1),
  (30, 3, .goto (-26), 4, 0, 0, 0),
  (33, 1, .iload_n 2, 0, 0, 0, 0),
  (34, 1, .ireturn, 0, 0, 0, 0)]
def mX4_fitting : Mth := (yX4_fitting, RX4, cX4_fitting, 4, (some .int), (4, 0, 0), (612, 613, 36, 614), [4], tX4_fitting, 1)
def tX4_init : List En := [
  (0, 1, .aload_n 0, 0, 0, 0, 0),
  (1, 3, .invokespecial 3, 0, 2, 196, 0),
  (4, 1, .aload_n 0, 0, 0, 0, 0),
  (5, 2, .bipush 6, 0, 0, 0, 6),
  (7, 2, .newarray .int, 0, 0, 0, 0),
  (9, 3, .putfield 9, 4, 0, 197, 0),
  (12, 1, .aload_n 0, 0, 0, 0, 0),
  (13, 2, .bipush 6, 0, 0, 0, 6),
  (15, 2, .newarray .int, 0, 0, 0, 0),
  (17, 3, .putfield 15, 4, 1, 198, 0),
  (20, 1, .return_, 0, 0, 0, 0)]
def mX4_init : Mth := (yX4_init, RX4, cX4_init, 1, none, (1, 5, 20), (194, 0, 36, 195), [], tX4_init, 0)
def tX4_look : List En := [
  (0, 1, .iload_n 3, 0, 0, 0, 0),
  (1, 1, .iconst 2, 0, 0, 0, 2),
  (2, 3, .if_icmp .ne 9, 11, 0, 0, 0),
  (5, 1, .aload_n 1, 0, 0, 0, 0),
  (6, 1, .iload_n 2, 0, 0, 0, 0),
  (7, 3, .invokevirtual 35, 60, 0, 623, 0),
  (10, 1, .ireturn, 0, 0, 0, 0),
  (11, 1, .aload_n 1, 0, 0, 0, 0),
  (12, 1, .iload_n 2, 0, 0, 0, 0),
  (13, 1, .iload_n 3, 0, 0, 0, 0),
  (14, 3, .ifCond .ne 7, 21, 0, 0, 0),
  (17, 1, .iconst 2, 0, 0, 0, 2),
  (18, 3, .goto 4, 22, 0, 0, 0),
  (21, 1, .iconst 3, 0, 0, 0, 3),
  (22, 3, .invokevirtual 39, 49, 0, 624, 0),
  (25, 1, .ireturn, 0, 0, 0, 0)]
def mX4_look : Mth := (yX4_look, RX4, cX4_look, 4, (some .int), (2, 0, 0), (620, 621, 36, 622), [], tX4_look, 3)
def tX4_note : List En := [
  (0, 1, .aload_n 0, 0, 0, 0, 0),
  (1, 3, .getfield 18, 4, 2, 199, 0),
  (4, 2, .bipush 6, 0, 0, 0, 6),
  (6, 3, .if_icmp .lt 5, 11, 0, 0, 0),
  (9, 1, .iconst 0, 0, 0, 0, 0),
  (10, 1, .ireturn, 0, 0, 0, 0),
  (11, 1, .aload_n 0, 0, 0, 0, 0),
  (12, 3, .getfield 9, 4, 0, 197, 0),
  (15, 1, .aload_n 0, 0, 0, 0, 0),
  (16, 3, .getfield 18, 4, 2, 199, 0),
  (19, 1, .iload_n 1, 0, 0, 0, 0),
  (20, 1, .iastore, 0, 0, 0, 0),
  (21, 1, .aload_n 0, 0, 0, 0, 0),
  (22, 3, .getfield 15, 4, 1, 198, 0),
  (25, 1, .aload_n 0, 0, 0, 0, 0),
  (26, 3, .getfield 18, 4, 2, 199, 0),
  (29, 1, .iload_n 2, 0, 0, 0, 0),
  (30, 1, .iastore, 0, 0, 0, 0),
  (31, 1, .aload_n 0, 0, 0, 0, 0),
  (32, 1, .dup, 0, 0, 0, 0),
  (33, 3, .getfield 18, 4, 2, 199, 0),
  (36, 1, .iconst 1, 0, 0, 0, 1),
  (37, 1, .iadd, 0, 0, 0, 0),
  (38, 3, .putfield 18, 4, 2, 199, 0),
  (41, 1, .iconst 1, 0, 0, 0, 1),
  (42, 1, .ireturn, 0, 0, 0, 0)]
def mX4_note : Mth := (yX4_note, RX4, cX4_note, 3, (some .boolean), (0, 0, 0), (596, 597, 36, 598), [], tX4_note, 2)
def tX5_back : List En := [
  (0, 1, .iload_n 1, 0, 0, 0, 0),
  (1, 3, .ifCond .lt 8, 9, 0, 0, 0),
  (4, 1, .iload_n 1, 0, 0, 0, 0),
  (5, 1, .iconst 2, 0, 0, 0, 2),
  (6, 3, .if_icmp .lt 5, 11, 0, 0, 0),
  (9, 1, .iconst (-1), 0, 0, 0, (-1)),
  (10, 1, .ireturn, 0, 0, 0, 0),
  (11, 1, .aload_n 0, 0, 0, 0, 0),
  (12, 3, .getfield 51, 5, 7, 215, 0),
  (15, 1, .iload_n 1, 0, 0, 0, 0),
  (16, 1, .baload, 0, 0, 0, 0),
  (17, 3, .ifCond .ne 6, 23, 0, 0, 0),
  (20, 2, .bipush (-2), 0, 0, 0, (-2)),
  (22, 1, .ireturn, 0, 0, 0, 0),
  (23, 1, .aload_n 0, 0, 0, 0, 0),
  (24, 3, .getfield 10, 5, 0, 208, 0),
  (27, 1, .aload_n 0, 0, 0, 0, 0),
  (28, 3, .getfield 47, 5, 6, 214, 0),
  (31, 1, .iload_n 1, 0, 0, 0, 0),
  (32, 1, .aaload, 0, 0, 0, 0),
  (33, 3, .invokevirtual 75, 42, 0, 364, 0),
  (36, 1, .aload_n 0, 0, 0, 0, 0),
  (37, 3, .getfield 22, 5, 2, 210, 0),
  (40, 1, .iconst 0, 0, 0, 0, 0),
  (41, 3, .putfield 117, 0, 1, 108, 0),
  (44, 1, .aload_n 0, 0, 0, 0, 0),
  (45, 3, .getfield 10, 5, 0, 208, 0),
  (48, 3, .getfield 207, 3, 5, 82, 0),
  (51, 1, .ireturn, 0, 0, 0, 0)]
def mX5_back : Mth := (yX5_back, RX5, cX5_back, 2, (some .int), (2, 0, 0), (635, 636, 31, 637), [], tX5_back, 1)
def tX5_best : List En := [
  (0, 1, .iload_n 1, 0, 0, 0, 0),
  (1, 2, .bipush (-2), 0, 0, 0, (-2)),
  (3, 3, .if_icmp .lt 14, 17, 0, 0, 0),
  (6, 1, .iload_n 1, 0, 0, 0, 0),
  (7, 1, .aload_n 0, 0, 0, 0, 0),
  (8, 3, .getfield 10, 5, 0, 208, 0),
  (11, 3, .getfield 164, 3, 4, 77, 0),
  (14, 3, .if_icmp .lt 5, 19, 0, 0, 0),
  (17, 1, .iconst (-1), 0, 0, 0, (-1)),
  (18, 1, .ireturn, 0, 0, 0, 0),
  (19, 1, .aload_n 0, 0, 0, 0, 0),
  (20, 3, .getfield 36, 5, 4, 212, 0),
  (23, 1, .aload_n 0, 0, 0, 0, 0),
  (24, 3, .getfield 10, 5, 0, 208, 0),
  (27, 3, .invokevirtual 100, 26, 0, 406, 0),
  (30, 1, .aload_n 0, 0, 0, 0, 0),
  (31, 3, .getfield 36, 5, 4, 212, 0),
  (34, 3, .invokevirtual 103, 19, 0, 458, 0),
  (37, 3, .ifCond .ne 6, 43, 0, 0, 0),
  (40, 2, .bipush (-9), 0, 0, 0, (-9)),
  (42, 1, .ireturn, 0, 0, 0, 0),
  (43, 1, .iload_n 1, 0, 0, 0, 0),
  (44, 2, .bipush (-2), 0, 0, 0, (-2)),
  (46, 3, .if_icmp .ne 11, 57, 0, 0, 0),
  (49, 1, .aload_n 0, 0, 0, 0, 0),
  (50, 3, .getfield 36, 5, 4, 212, 0),
  (53, 3, .getfield 167, 1, 9, 165, 0),
  (56, 1, .ireturn, 0, 0, 0, 0),
  (57, 1, .iload_n 1, 0, 0, 0, 0),
  (58, 1, .iconst (-1), 0, 0, 0, (-1)),
  (59, 3, .if_icmp .ne 13, 72, 0, 0, 0),
  (62, 1, .aload_n 0, 0, 0, 0, 0),
  (63, 3, .getfield 36, 5, 4, 212, 0),
  (66, 3, .getfield 170, 1, 10, 167, 0),
  (69, 3, .goto 12, 81, 0, 0, 0),
  (72, 1, .aload_n 0, 0, 0, 0, 0),
  (73, 3, .getfield 36, 5, 4, 212, 0),
  (76, 3, .getfield 173, 1, 6, 161, 0),
  (79, 1, .iload_n 1, 0, 0, 0, 0),
  (80, 1, .iaload, 0, 0, 0, 0),
  (81, 1, .ireturn, 0, 0, 0, 0)]
def mX5_best : Mth := (yX5_best, RX5, cX5_best, 2, (some .int), (6, 0, 0), (565, 566, 31, 567), [], tX5_best, 1)
def tX5_cheapest : List En := [
  (0, 1, .iload_n 1, 0, 0, 0, 0),
  (1, 3, .ifCond .lt 8, 9, 0, 0, 0),
  (4, 1, .iload_n 1, 0, 0, 0, 0),
  (5, 1, .iconst 1, 0, 0, 0, 1),
  (6, 3, .if_icmp .le 5, 11, 0, 0, 0),
  (9, 1, .iconst (-1), 0, 0, 0, (-1)),
  (10, 1, .ireturn, 0, 0, 0, 0),
  (11, 1, .aload_n 0, 0, 0, 0, 0),
  (12, 3, .getfield 36, 5, 4, 212, 0),
  (15, 1, .aload_n 0, 0, 0, 0, 0),
  (16, 3, .getfield 10, 5, 0, 208, 0),
  (19, 3, .invokevirtual 100, 26, 0, 406, 0),
  (22, 1, .aload_n 0, 0, 0, 0, 0),
  (23, 3, .getfield 36, 5, 4, 212, 0),
  (26, 3, .invokevirtual 176, 14, 0, 572, 0),
  (29, 1, .istore_n 2, 0, 0, 0, 0),
  (30, 1, .iload_n 2, 0, 0, 0, 0),
  (31, 2, .bipush (-9), 0, 0, 0, (-9)),
  (33, 3, .if_icmp .eq 7, 40, 0, 0, 0),
  (36, 1, .iload_n 1, 0, 0, 0, 0),
  (37, 3, .ifCond .ne 5, 42, 0, 0, 0),
  (40, 1, .iload_n 2, 0, 0, 0, 0),
  (41, 1, .ireturn, 0, 0, 0, 0),
  (42, 2, .ldc 179, 1148846080, 1, 581, 0),
  (44, 1, .aload_n 0, 0, 0, 0, 0),
  (45, 3, .getfield 36, 5, 4, 212, 0),
  (48, 1, .iload_n 2, 0, 0, 0, 0),
  (49, 3, .invokevirtual 180, 16, 0, 582, 0),
  (52, 1, .fmul, 0, 0, 0, 0),
  (53, 1, .f2i, 0, 0, 0, 0),
  (54, 1, .ireturn, 0, 0, 0, 0)]
def mX5_cheapest : Mth := (yX5_cheapest, RX5, cX5_cheapest, 3, (some .int), (6, 0, 0), (569, 570, 31, 571), [], tX5_cheapest, 1)
def tX5_clear : List En := [
  (0, 1, .aload_n 0, 0, 0, 0, 0),
  (1, 3, .getfield 29, 5, 3, 211, 0),
  (4, 3, .invokevirtual 63, 29, 0, 246, 0),
  (7, 1, .ireturn, 0, 0, 0, 0)]
def mX5_clear : Mth := (yX5_clear, RX5, cX5_clear, 1, (some .int), (1, 0, 0), (243, 244, 31, 245), [], tX5_clear, 0)
def tX5_count : List En := [
  (0, 1, .iload_n 1, 0, 0, 0, 0),
  (1, 35, .tableswitch 75 0 4 #[35, 43, 51, 59, 67], 76, 0, 0, 0),
  (36, 1, .aload_n 0, 0, 0, 0, 0),
  (37, 3, .getfield 10, 5, 0, 208, 0),
  (40, 3, .getfield 164, 3, 4, 77, 0),
  (43, 1, .ireturn, 0, 0, 0, 0),
  (44, 1, .aload_n 0, 0, 0, 0, 0),
  (45, 3, .getfield 10, 5, 0, 208, 0),
  (48, 3, .getfield 207, 3, 5, 82, 0),
  (51, 1, .ireturn, 0, 0, 0, 0),
  (52, 1, .aload_n 0, 0, 0, 0, 0),
  (53, 3, .getfield 43, 5, 5, 213, 0),
  (56, 3, .getfield 190, 4, 2, 200, 0),
  (59, 1, .ireturn, 0, 0, 0, 0),
  (60, 1, .aload_n 0, 0, 0, 0, 0),
  (61, 3, .getfield 29, 5, 3, 211, 0),
  (64, 3, .getfield 59, 2, 1, 125, 0),
  (67, 1, .ireturn, 0, 0, 0, 0),
  (68, 1, .aload_n 0, 0, 0, 0, 0),
  (69, 3, .getfield 22, 5, 2, 210, 0),
  (72, 3, .getfield 117, 0, 1, 108, 0),
  (75, 1, .ireturn, 0, 0, 0, 0),
  (76, 1, .iconst (-1), 0, 0, 0, (-1)),
  (77, 1, .ireturn, 0, 0, 0, 0)]
def mX5_count : Mth := (yX5_count, RX5, cX5_count, 2, (some .int), (0, 0, 0), (639, 640, 31, 641), [], tX5_count, 1)
def tX5_edit : List En := [
  (0, 1, .iload_n 1, 0, 0, 0, 0),
  (1, 35, .tableswitch 75 0 4 #[35, 43, 51, 59, 67], 76, 0, 0, 0),
  (36, 1, .aload_n 0, 0, 0, 0, 0),
  (37, 3, .getfield 10, 5, 0, 208, 0),
  (40, 3, .invokevirtual 149, 55, 0, 538, 0),
  (43, 1, .ireturn, 0, 0, 0, 0),
  (44, 1, .aload_n 0, 0, 0, 0, 0),
  (45, 3, .getfield 10, 5, 0, 208, 0),
  (48, 3, .invokevirtual 152, 65, 0, 542, 0),
  (51, 1, .ireturn, 0, 0, 0, 0),
  (52, 1, .aload_n 0, 0, 0, 0, 0),
  (53, 3, .getfield 10, 5, 0, 208, 0),
  (56, 3, .invokevirtual 155, 47, 0, 550, 0),
  (59, 1, .ireturn, 0, 0, 0, 0),
  (60, 1, .aload_n 0, 0, 0, 0, 0),
  (61, 3, .getfield 10, 5, 0, 208, 0),
  (64, 3, .invokevirtual 158, 46, 0, 555, 0),
  (67, 1, .ireturn, 0, 0, 0, 0),
  (68, 1, .aload_n 0, 0, 0, 0, 0),
  (69, 3, .getfield 10, 5, 0, 208, 0),
  (72, 3, .invokevirtual 161, 59, 0, 559, 0),
  (75, 1, .ireturn, 0, 0, 0, 0),
  (76, 1, .iconst (-1), 0, 0, 0, (-1)),
  (77, 1, .ireturn, 0, 0, 0, 0)]
def mX5_edit : Mth := (yX5_edit, RX5, cX5_edit, 2, (some .int), (5, 0, 0), (535, 536, 31, 537), [], tX5_edit, 1)
def tX5_forget : List En := [
  (0, 1, .aload_n 0, 0, 0, 0, 0),
  (1, 3, .getfield 43, 5, 5, 213, 0),
  (4, 3, .invokevirtual 193, 66, 0, 603, 0),
  (7, 1, .ireturn, 0, 0, 0, 0)]
def mX5_forget : Mth := (yX5_forget, RX5, cX5_forget, 1, (some .int), (1, 0, 0), (600, 601, 31, 602), [], tX5_forget, 0)
def tX5_init : List En := [
  (0, 1, .aload_n 0, 0, 0, 0, 0),
  (1, 3, .invokespecial 1, 0, 2, 50, 0),
  (4, 1, .aload_n 0, 0, 0, 0, 0),
  (5, 3, .new 7, 3, 54, 53, 32),
  (8, 1, .dup, 0, 0, 0, 0),
  (9, 3, .invokespecial 9, 52, 0, 55, 0),
  (12, 3, .putfield 10, 5, 0, 208, 0),
  (15, 1, .aload_n 0, 0, 0, 0, 0),
  (16, 3, .new 7, 3, 54, 53, 32),
  (19, 1, .dup, 0, 0, 0, 0),
  (20, 3, .invokespecial 9, 52, 0, 55, 0),
  (23, 3, .putfield 16, 5, 1, 209, 0),
  (26, 1, .aload_n 0, 0, 0, 0, 0),
  (27, 3, .new 19, 0, 98, 97, 33),
  (30, 1, .dup, 0, 0, 0, 0),
  (31, 3, .invokespecial 21, 10, 0, 99, 0),
  (34, 3, .putfield 22, 5, 2, 210, 0),
  (37, 1, .aload_n 0, 0, 0, 0, 0),
  (38, 3, .new 26, 2, 118, 117, 34),
  (41, 1, .dup, 0, 0, 0, 0),
  (42, 3, .invokespecial 28, 30, 0, 119, 0),
  (45, 3, .putfield 29, 5, 3, 211, 0),
  (48, 1, .aload_n 0, 0, 0, 0, 0),
  (49, 3, .new 33, 1, 147, 146, 35),
  (52, 1, .dup, 0, 0, 0, 0),
  (53, 3, .invokespecial 35, 23, 0, 148, 0),
  (56, 3, .putfield 36, 5, 4, 212, 0),
  (59, 1, .aload_n 0, 0, 0, 0, 0),
  (60, 3, .new 40, 4, 192, 191, 36),
  (63, 1, .dup, 0, 0, 0, 0),
  (64, 3, .invokespecial 42, 69, 0, 193, 0),
  (67, 3, .putfield 43, 5, 5, 213, 0),
  (70, 1, .aload_n 0, 0, 0, 0, 0),
  (71, 1, .iconst 2, 0, 0, 0, 2),
  (72, 3, .anewarray 7, 0, 0, 53, 0),
  (75, 3, .putfield 47, 5, 6, 214, 0),
  (78, 1, .iconst 0, 0, 0, 0, 0),
  (79, 1, .istore_n 1, 0, 0, 0, 0),
  (80, 1, .iload_n 1, 0, 0, 0, 0),
  (81, 1, .iconst 2, 0, 0, 0, 2),
  (82, 3, .if_icmp .ge 22, 104, 0, 0, 0),
  (85, 1, .aload_n 0, 0, 0, 0, 0),
  (86, 3, .getfield 47, 5, 6, 214, 0),
  (89, 1, .iload_n 1, 0, 0, 0, 0),
  (90, 3, .new 7, 3, 54, 53, 32),
  (93, 1, .dup, 0, 0, 0, 0),
  (94, 3, .invokespecial 9, 52, 0, 55, 0),
  (97, 1, .aastore, 0, 0, 0, 0),
  (98, 3, .iinc 1 1, 0, 0, 0, 1),
  (101, 3, .goto (-21), 80, 0, 0, 0),
  (104, 1, .aload_n 0, 0, 0, 0, 0),
  (105, 1, .iconst 2, 0, 0, 0, 2),
  (106, 2, .newarray .boolean, 1, 0, 0, 0),
  (108, 3, .putfield 51, 5, 7, 215, 0),
  (111, 1, .return_, 0, 0, 0, 0)]
def mX5_init : Mth := (yX5_init, RX5, cX5_init, 2, none, (3, 200, 2000), (48, 0, 31, 49), [80], tX5_init, 0)
def tX5_keep : List En := [
  (0, 1, .iload_n 1, 0, 0, 0, 0),
  (1, 3, .ifCond .lt 8, 9, 0, 0, 0),
  (4, 1, .iload_n 1, 0, 0, 0, 0),
  (5, 1, .iconst 2, 0, 0, 0, 2),
  (6, 3, .if_icmp .lt 5, 11, 0, 0, 0),
  (9, 1, .iconst (-1), 0, 0, 0, (-1)),
  (10, 1, .ireturn, 0, 0, 0, 0),
  (11, 1, .aload_n 0, 0, 0, 0, 0),
  (12, 3, .getfield 47, 5, 6, 214, 0),
  (15, 1, .iload_n 1, 0, 0, 0, 0),
  (16, 1, .aaload, 0, 0, 0, 0),
  (17, 1, .aload_n 0, 0, 0, 0, 0),
  (18, 3, .getfield 10, 5, 0, 208, 0),
  (21, 3, .invokevirtual 75, 42, 0, 364, 0),
  (24, 1, .aload_n 0, 0, 0, 0, 0),
  (25, 3, .getfield 51, 5, 7, 215, 0),
  (28, 1, .iload_n 1, 0, 0, 0, 0),
  (29, 1, .iconst 1, 0, 0, 0, 1),
  (30, 1, .bastore, 0, 0, 0, 0),
  (31, 1, .aload_n 0, 0, 0, 0, 0),
  (32, 3, .getfield 10, 5, 0, 208, 0),
  (35, 3, .getfield 207, 3, 5, 82, 0),
  (38, 1, .ireturn, 0, 0, 0, 0)]
def mX5_keep : Mth := (yX5_keep, RX5, cX5_keep, 2, (some .int), (2, 0, 0), (631, 632, 31, 633), [], tX5_keep, 1)
def tX5_line : List En := [
  (0, 1, .aload_n 0, 0, 0, 0, 0),
  (1, 3, .getfield 10, 5, 0, 208, 0),
  (4, 1, .iload_n 1, 0, 0, 0, 0),
  (5, 3, .invokevirtual 78, 50, 0, 370, 0),
  (8, 3, .ifCond .ne 5, 13, 0, 0, 0),
  (11, 1, .iconst (-1), 0, 0, 0, (-1)),
  (12, 1, .ireturn, 0, 0, 0, 0),
  (13, 1, .iload_n 2, 0, 0, 0, 0),
  (14, 30, .tableswitch 85 0 3 #[30, 40, 50, 76], 99, 0, 0, 0),
  (44, 1, .aload_n 0, 0, 0, 0, 0),
  (45, 3, .getfield 10, 5, 0, 208, 0),
  (48, 3, .getfield 120, 3, 1, 68, 0),
  (51, 1, .iload_n 1, 0, 0, 0, 0),
  (52, 1, .iaload, 0, 0, 0, 0),
  (53, 1, .ireturn, 0, 0, 0, 0),
  (54, 1, .aload_n 0, 0, 0, 0, 0),
  (55, 3, .getfield 10, 5, 0, 208, 0),
  (58, 3, .getfield 84, 3, 2, 70, 0),
  (61, 1, .iload_n 1, 0, 0, 0, 0),
  (62, 1, .iaload, 0, 0, 0, 0),
  (63, 1, .ireturn, 0, 0, 0, 0),
  (64, 1, .aload_n 0, 0, 0, 0, 0),
  (65, 3, .getfield 10, 5, 0, 208, 0),
  (68, 1, .iload_n 1, 0, 0, 0, 0),
  (69, 1, .aload_n 0, 0, 0, 0, 0),
  (70, 3, .getfield 10, 5, 0, 208, 0),
  (73, 3, .getfield 84, 3, 2, 70, 0),
  (76, 1, .iload_n 1, 0, 0, 0, 0),
  (77, 1, .iaload, 0, 0, 0, 0),
  (78, 3, .invokevirtual 123, 54, 0, 518, 0),
  (81, 3, .ifCond .eq 7, 88, 0, 0, 0),
  (84, 1, .iconst 1, 0, 0, 0, 1),
  (85, 3, .goto 4, 89, 0, 0, 0),
  (88, 1, .iconst 0, 0, 0, 0, 0),
  (89, 1, .ireturn, 0, 0, 0, 0),
  (90, 1, .aload_n 0, 0, 0, 0, 0),
  (91, 3, .getfield 10, 5, 0, 208, 0),
  (94, 1, .iload_n 1, 0, 0, 0, 0),
  (95, 3, .invokevirtual 126, 44, 0, 519, 0),
  (98, 1, .ireturn, 0, 0, 0, 0),
  (99, 1, .iconst (-1), 0, 0, 0, (-1)),
  (100, 1, .ireturn, 0, 0, 0, 0)]
def mX5_line : Mth := (yX5_line, RX5, cX5_line, 3, (some .int), (3, 0, 0), (515, 516, 31, 517), [], tX5_line, 2)
def tX5_makes : List En := [
  (0, 1, .aload_n 0, 0, 0, 0, 0),
  (1, 3, .getfield 36, 5, 4, 212, 0),
  (4, 1, .aload_n 0, 0, 0, 0, 0),
  (5, 3, .getfield 10, 5, 0, 208, 0),
  (8, 3, .invokevirtual 100, 26, 0, 406, 0),
  (11, 1, .aload_n 0, 0, 0, 0, 0),
  (12, 3, .getfield 36, 5, 4, 212, 0),
  (15, 3, .invokevirtual 103, 19, 0, 458, 0),
  (18, 3, .ifCond .ne 6, 24, 0, 0, 0),
  (21, 2, .bipush (-2), 0, 0, 0, (-2)),
  (23, 1, .ireturn, 0, 0, 0, 0),
  (24, 1, .aload_n 0, 0, 0, 0, 0),
  (25, 3, .getfield 36, 5, 4, 212, 0),
  (28, 1, .aload_n 0, 0, 0, 0, 0),
  (29, 3, .getfield 10, 5, 0, 208, 0),
  (32, 3, .invokevirtual 107, 17, 0, 498, 0),
  (35, 1, .istore_n 1, 0, 0, 0, 0),
  (36, 1, .iload_n 1, 0, 0, 0, 0),
  (37, 3, .ifCond .ne 6, 43, 0, 0, 0),
  (40, 2, .bipush (-2), 0, 0, 0, (-2)),
  (42, 1, .ireturn, 0, 0, 0, 0),
  (43, 1, .aload_n 0, 0, 0, 0, 0),
  (44, 3, .getfield 22, 5, 2, 210, 0),
  (47, 1, .aload_n 0, 0, 0, 0, 0),
  (48, 3, .getfield 10, 5, 0, 208, 0),
  (51, 3, .invokevirtual 71, 11, 0, 350, 0),
  (54, 1, .aload_n 0, 0, 0, 0, 0),
  (55, 3, .getfield 36, 5, 4, 212, 0),
  (58, 1, .aload_n 0, 0, 0, 0, 0),
  (59, 3, .getfield 10, 5, 0, 208, 0),
  (62, 3, .invokevirtual 110, 21, 0, 502, 0),
  (65, 1, .iload_n 1, 0, 0, 0, 0),
  (66, 1, .ireturn, 0, 0, 0, 0)]
def mX5_makes : Mth := (yX5_makes, RX5, cX5_makes, 2, (some .int), (6, 0, 0), (403, 404, 31, 405), [], tX5_makes, 0)
def tX5_needed : List En := [
  (0, 1, .aload_n 0, 0, 0, 0, 0),
  (1, 3, .getfield 36, 5, 4, 212, 0),
  (4, 1, .aload_n 0, 0, 0, 0, 0),
  (5, 3, .getfield 10, 5, 0, 208, 0),
  (8, 3, .invokevirtual 100, 26, 0, 406, 0),
  (11, 1, .aload_n 0, 0, 0, 0, 0),
  (12, 3, .getfield 36, 5, 4, 212, 0),
  (15, 3, .invokevirtual 184, 24, 0, 587, 0),
  (18, 1, .ireturn, 0, 0, 0, 0)]
def mX5_needed : Mth := (yX5_needed, RX5, cX5_needed, 1, (some .int), (6, 0, 0), (584, 585, 31, 586), [], tX5_needed, 0)
def tX5_player : List En := [
  (0, 1, .iload_n 1, 0, 0, 0, 0),
  (1, 3, .ifCond .lt 17, 18, 0, 0, 0),
  (4, 1, .iload_n 1, 0, 0, 0, 0),
  (5, 1, .iconst 1, 0, 0, 0, 1),
  (6, 3, .if_icmp .gt 12, 18, 0, 0, 0),
  (9, 1, .iload_n 2, 0, 0, 0, 0),
  (10, 3, .ifCond .lt 8, 18, 0, 0, 0),
  (13, 1, .iload_n 2, 0, 0, 0, 0),
  (14, 1, .iconst 1, 0, 0, 0, 1),
  (15, 3, .if_icmp .le 5, 20, 0, 0, 0),
  (18, 1, .iconst (-1), 0, 0, 0, (-1)),
  (19, 1, .ireturn, 0, 0, 0, 0),
  (20, 1, .aload_n 0, 0, 0, 0, 0),
  (21, 3, .getfield 10, 5, 0, 208, 0),
  (24, 3, .getfield 146, 3, 0, 65, 0),
  (27, 1, .iconst 2, 0, 0, 0, 2),
  (28, 1, .iload_n 1, 0, 0, 0, 0),
  (29, 1, .imul, 0, 0, 0, 0),
  (30, 1, .iload_n 2, 0, 0, 0, 0),
  (31, 1, .iadd, 0, 0, 0, 0),
  (32, 1, .iaload, 0, 0, 0, 0),
  (33, 1, .ireturn, 0, 0, 0, 0)]
def mX5_player : Mth := (yX5_player, RX5, cX5_player, 3, (some .int), (0, 0, 0), (531, 532, 31, 533), [], tX5_player, 2)
def tX5_puts : List En := [
  (0, 1, .aload_n 0, 0, 0, 0, 0),
  (1, 3, .getfield 10, 5, 0, 208, 0),
  (4, 1, .iload_n 1, 0, 0, 0, 0),
  (5, 3, .invokevirtual 78, 50, 0, 370, 0),
  (8, 3, .ifCond .eq 14, 22, 0, 0, 0),
  (11, 1, .aload_n 0, 0, 0, 0, 0),
  (12, 3, .getfield 10, 5, 0, 208, 0),
  (15, 1, .iload_n 2, 0, 0, 0, 0),
  (16, 3, .invokevirtual 81, 51, 0, 374, 0),
  (19, 3, .ifCond .ne 5, 24, 0, 0, 0),
  (22, 1, .iconst (-1), 0, 0, 0, (-1)),
  (23, 1, .ireturn, 0, 0, 0, 0),
  (24, 1, .aload_n 0, 0, 0, 0, 0),
  (25, 3, .getfield 10, 5, 0, 208, 0),
  (28, 3, .getfield 84, 3, 2, 70, 0),
  (31, 1, .iload_n 1, 0, 0, 0, 0),
  (32, 1, .iaload, 0, 0, 0, 0),
  (33, 1, .istore_n 3, 0, 0, 0, 0),
  (34, 1, .iload_n 3, 0, 0, 0, 0),
  (35, 1, .iload_n 2, 0, 0, 0, 0),
  (36, 3, .if_icmp .eq 15, 51, 0, 0, 0),
  (39, 1, .aload_n 0, 0, 0, 0, 0),
  (40, 3, .getfield 10, 5, 0, 208, 0),
  (43, 1, .iload_n 2, 0, 0, 0, 0),
  (44, 1, .iload_n 1, 0, 0, 0, 0),
  (45, 3, .invokevirtual 88, 45, 0, 378, 0),
  (48, 3, .ifCond .ne 6, 54, 0, 0, 0),
  (51, 2, .bipush (-2), 0, 0, 0, (-2)),
  (53, 1, .ireturn, 0, 0, 0, 0),
  (54, 1, .aload_n 0, 0, 0, 0, 0),
  (55, 3, .getfield 22, 5, 2, 210, 0),
  (58, 1, .aload_n 0, 0, 0, 0, 0),
  (59, 3, .getfield 10, 5, 0, 208, 0),
  (62, 3, .invokevirtual 71, 11, 0, 350, 0),
  (65, 1, .aload_n 0, 0, 0, 0, 0),
  (66, 3, .getfield 10, 5, 0, 208, 0),
  (69, 3, .getfield 84, 3, 2, 70, 0),
  (72, 1, .iload_n 1, 0, 0, 0, 0),
  (73, 1, .iload_n 2, 0, 0, 0, 0),
  (74, 1, .iastore, 0, 0, 0, 0),
  (75, 1, .iload_n 3, 0, 0, 0, 0),
  (76, 1, .ireturn, 0, 0, 0, 0)]
def mX5_puts : Mth := (yX5_puts, RX5, cX5_puts, 4, (some .int), (3, 0, 0), (367, 368, 31, 369), [], tX5_puts, 2)
def tX5_sees : List En := [
  (0, 1, .iload_n 1, 0, 0, 0, 0),
  (1, 3, .ifCond .lt 18, 19, 0, 0, 0),
  (4, 1, .iload_n 1, 0, 0, 0, 0),
  (5, 1, .iconst 2, 0, 0, 0, 2),
  (6, 3, .if_icmp .gt 13, 19, 0, 0, 0),
  (9, 1, .iload_n 2, 0, 0, 0, 0),
  (10, 1, .iconst (-1), 0, 0, 0, (-1)),
  (11, 3, .if_icmp .lt 8, 19, 0, 0, 0),
  (14, 1, .iload_n 2, 0, 0, 0, 0),
  (15, 1, .iconst 5, 0, 0, 0, 5),
  (16, 3, .if_icmp .le 5, 21, 0, 0, 0),
  (19, 1, .iconst (-1), 0, 0, 0, (-1)),
  (20, 1, .ireturn, 0, 0, 0, 0),
  (21, 1, .aload_n 0, 0, 0, 0, 0),
  (22, 3, .getfield 43, 5, 5, 213, 0),
  (25, 1, .iload_n 1, 0, 0, 0, 0),
  (26, 1, .iload_n 2, 0, 0, 0, 0),
  (27, 3, .invokevirtual 187, 71, 0, 595, 0),
  (30, 3, .ifCond .eq 13, 43, 0, 0, 0),
  (33, 1, .aload_n 0, 0, 0, 0, 0),
  (34, 3, .getfield 43, 5, 5, 213, 0),
  (37, 3, .getfield 190, 4, 2, 200, 0),
  (40, 3, .goto 5, 45, 0, 0, 0),
  (43, 2, .bipush (-3), 0, 0, 0, (-3)),
  (45, 1, .ireturn, 0, 0, 0, 0)]
def mX5_sees : Mth := (yX5_sees, RX5, cX5_sees, 3, (some .int), (1, 0, 0), (592, 593, 31, 594), [], tX5_sees, 2)
def tX5_shot : List En := [
  (0, 1, .aload_n 0, 0, 0, 0, 0),
  (1, 3, .getfield 10, 5, 0, 208, 0),
  (4, 1, .iload_n 1, 0, 0, 0, 0),
  (5, 3, .invokevirtual 81, 51, 0, 374, 0),
  (8, 3, .ifCond .eq 7, 15, 0, 0, 0),
  (11, 1, .iload_n 2, 0, 0, 0, 0),
  (12, 3, .ifCond .ge 6, 18, 0, 0, 0),
  (15, 2, .ldc 129, 0, 0, 524, (-1000000)),
  (17, 1, .ireturn, 0, 0, 0, 0),
  (18, 1, .iload_n 2, 0, 0, 0, 0),
  (19, 2, .bipush 7, 0, 0, 0, 7),
  (21, 3, .if_icmp .ge 13, 34, 0, 0, 0),
  (24, 1, .aload_n 0, 0, 0, 0, 0),
  (25, 3, .getfield 10, 5, 0, 208, 0),
  (28, 1, .iload_n 1, 0, 0, 0, 0),
  (29, 1, .iload_n 2, 0, 0, 0, 0),
  (30, 3, .invokevirtual 130, 49, 0, 525, 0),
  (33, 1, .ireturn, 0, 0, 0, 0),
  (34, 1, .iload_n 2, 0, 0, 0, 0),
  (35, 29, .tableswitch 65 7 10 #[29, 38, 47, 56], 100, 0, 0, 0),
  (64, 1, .aload_n 0, 0, 0, 0, 0),
  (65, 3, .getfield 10, 5, 0, 208, 0),
  (68, 1, .iload_n 1, 0, 0, 0, 0),
  (69, 3, .invokevirtual 134, 60, 0, 526, 0),
  (72, 1, .ireturn, 0, 0, 0, 0),
  (73, 1, .aload_n 0, 0, 0, 0, 0),
  (74, 3, .getfield 10, 5, 0, 208, 0),
  (77, 1, .iload_n 1, 0, 0, 0, 0),
  (78, 3, .invokevirtual 137, 63, 0, 527, 0),
  (81, 1, .ireturn, 0, 0, 0, 0),
  (82, 1, .aload_n 0, 0, 0, 0, 0),
  (83, 3, .getfield 10, 5, 0, 208, 0),
  (86, 1, .iload_n 1, 0, 0, 0, 0),
  (87, 3, .invokevirtual 140, 64, 0, 528, 0),
  (90, 1, .ireturn, 0, 0, 0, 0),
  (91, 1, .aload_n 0, 0, 0, 0, 0),
  (92, 3, .getfield 10, 5, 0, 208, 0),
  (95, 1, .iload_n 1, 0, 0, 0, 0),
  (96, 3, .invokevirtual 143, 58, 0, 529, 0),
  (99, 1, .ireturn, 0, 0, 0, 0),
  (100, 2, .ldc 129, 0, 0, 524, (-1000000)),
  (102, 1, .ireturn, 0, 0, 0, 0)]
def mX5_shot : Mth := (yX5_shot, RX5, cX5_shot, 3, (some .int), (5, 0, 0), (521, 522, 31, 523), [], tX5_shot, 2)
def tX5_strikes : List En := [
  (0, 1, .aload_n 0, 0, 0, 0, 0),
  (1, 3, .getfield 10, 5, 0, 208, 0),
  (4, 1, .iload_n 1, 0, 0, 0, 0),
  (5, 3, .invokevirtual 81, 51, 0, 374, 0),
  (8, 3, .ifCond .ne 5, 13, 0, 0, 0),
  (11, 1, .iconst (-1), 0, 0, 0, (-1)),
  (12, 1, .ireturn, 0, 0, 0, 0),
  (13, 1, .aload_n 0, 0, 0, 0, 0),
  (14, 3, .getfield 22, 5, 2, 210, 0),
  (17, 1, .aload_n 0, 0, 0, 0, 0),
  (18, 3, .getfield 10, 5, 0, 208, 0),
  (21, 3, .invokevirtual 71, 11, 0, 350, 0),
  (24, 1, .aload_n 0, 0, 0, 0, 0),
  (25, 3, .getfield 10, 5, 0, 208, 0),
  (28, 1, .iload_n 1, 0, 0, 0, 0),
  (29, 3, .invokevirtual 92, 48, 0, 394, 0),
  (32, 1, .aload_n 0, 0, 0, 0, 0),
  (33, 3, .getfield 10, 5, 0, 208, 0),
  (36, 1, .iload_n 1, 0, 0, 0, 0),
  (37, 3, .invokevirtual 96, 56, 0, 398, 0),
  (40, 1, .ireturn, 0, 0, 0, 0)]
def mX5_strikes : Mth := (yX5_strikes, RX5, cX5_strikes, 2, (some .int), (3, 0, 0), (391, 392, 31, 393), [], tX5_strikes, 1)
def tX5_takes : List En := [
  (0, 1, .aload_n 0, 0, 0, 0, 0),
  (1, 3, .getfield 10, 5, 0, 208, 0),
  (4, 1, .iload_n 1, 0, 0, 0, 0),
  (5, 3, .invokevirtual 78, 50, 0, 370, 0),
  (8, 3, .ifCond .ne 5, 13, 0, 0, 0),
  (11, 1, .iconst (-1), 0, 0, 0, (-1)),
  (12, 1, .ireturn, 0, 0, 0, 0),
  (13, 1, .aload_n 0, 0, 0, 0, 0),
  (14, 3, .getfield 10, 5, 0, 208, 0),
  (17, 3, .getfield 84, 3, 2, 70, 0),
  (20, 1, .iload_n 1, 0, 0, 0, 0),
  (21, 1, .iaload, 0, 0, 0, 0),
  (22, 1, .istore_n 2, 0, 0, 0, 0),
  (23, 1, .iload_n 2, 0, 0, 0, 0),
  (24, 2, .bipush (-9), 0, 0, 0, (-9)),
  (26, 3, .if_icmp .ne 6, 32, 0, 0, 0),
  (29, 2, .bipush (-2), 0, 0, 0, (-2)),
  (31, 1, .ireturn, 0, 0, 0, 0),
  (32, 1, .aload_n 0, 0, 0, 0, 0),
  (33, 3, .getfield 22, 5, 2, 210, 0),
  (36, 1, .aload_n 0, 0, 0, 0, 0),
  (37, 3, .getfield 10, 5, 0, 208, 0),
  (40, 3, .invokevirtual 71, 11, 0, 350, 0),
  (43, 1, .aload_n 0, 0, 0, 0, 0),
  (44, 3, .getfield 10, 5, 0, 208, 0),
  (47, 3, .getfield 84, 3, 2, 70, 0),
  (50, 1, .iload_n 1, 0, 0, 0, 0),
  (51, 2, .bipush (-9), 0, 0, 0, (-9)),
  (53, 1, .iastore, 0, 0, 0, 0),
  (54, 1, .iload_n 2, 0, 0, 0, 0),
  (55, 1, .ireturn, 0, 0, 0, 0)]
def mX5_takes : Mth := (yX5_takes, RX5, cX5_takes, 3, (some .int), (3, 0, 0), (387, 388, 31, 389), [], tX5_takes, 1)
def tX5_tells : List En := [
  (0, 1, .aload_n 0, 0, 0, 0, 0),
  (1, 3, .getfield 29, 5, 3, 211, 0),
  (4, 1, .aload_n 0, 0, 0, 0, 0),
  (5, 3, .getfield 16, 5, 1, 209, 0),
  (8, 3, .invokevirtual 67, 33, 0, 254, 0),
  (11, 1, .istore_n 1, 0, 0, 0, 0),
  (12, 1, .iload_n 1, 0, 0, 0, 0),
  (13, 3, .ifCond .ge 5, 18, 0, 0, 0),
  (16, 1, .iload_n 1, 0, 0, 0, 0),
  (17, 1, .ireturn, 0, 0, 0, 0),
  (18, 1, .aload_n 0, 0, 0, 0, 0),
  (19, 3, .getfield 22, 5, 2, 210, 0),
  (22, 1, .aload_n 0, 0, 0, 0, 0),
  (23, 3, .getfield 10, 5, 0, 208, 0),
  (26, 3, .invokevirtual 71, 11, 0, 350, 0),
  (29, 1, .aload_n 0, 0, 0, 0, 0),
  (30, 3, .getfield 10, 5, 0, 208, 0),
  (33, 1, .aload_n 0, 0, 0, 0, 0),
  (34, 3, .getfield 16, 5, 1, 209, 0),
  (37, 3, .invokevirtual 75, 42, 0, 364, 0),
  (40, 1, .aload_n 0, 0, 0, 0, 0),
  (41, 3, .getfield 29, 5, 3, 211, 0),
  (44, 3, .invokevirtual 63, 29, 0, 246, 0),
  (47, 1, .pop, 0, 0, 0, 0),
  (48, 1, .iload_n 1, 0, 0, 0, 0),
  (49, 1, .ireturn, 0, 0, 0, 0)]
def mX5_tells : Mth := (yX5_tells, RX5, cX5_tells, 2, (some .int), (7, 0, 0), (251, 252, 31, 253), [], tX5_tells, 0)
def tX5_type : List En := [
  (0, 1, .iload_n 1, 0, 0, 0, 0),
  (1, 3, .ifCond .lt 10, 11, 0, 0, 0),
  (4, 1, .iload_n 1, 0, 0, 0, 0),
  (5, 3, .sipush 255, 0, 0, 0, 255),
  (8, 3, .if_icmp .le 5, 13, 0, 0, 0),
  (11, 1, .iconst (-1), 0, 0, 0, (-1)),
  (12, 1, .ireturn, 0, 0, 0, 0),
  (13, 1, .aload_n 0, 0, 0, 0, 0),
  (14, 3, .getfield 29, 5, 3, 211, 0),
  (17, 1, .iload_n 1, 0, 0, 0, 0),
  (18, 3, .invokevirtual 55, 41, 0, 238, 0),
  (21, 3, .ifCond .eq 13, 34, 0, 0, 0),
  (24, 1, .aload_n 0, 0, 0, 0, 0),
  (25, 3, .getfield 29, 5, 3, 211, 0),
  (28, 3, .getfield 59, 2, 1, 125, 0),
  (31, 3, .goto 5, 36, 0, 0, 0),
  (34, 2, .bipush (-3), 0, 0, 0, (-3)),
  (36, 1, .ireturn, 0, 0, 0, 0)]
def mX5_type : Mth := (yX5_type, RX5, cX5_type, 2, (some .int), (1, 0, 0), (235, 236, 31, 237), [], tX5_type, 1)
def tX5_undo : List En := [
  (0, 1, .aload_n 0, 0, 0, 0, 0),
  (1, 3, .getfield 22, 5, 2, 210, 0),
  (4, 1, .aload_n 0, 0, 0, 0, 0),
  (5, 3, .getfield 10, 5, 0, 208, 0),
  (8, 3, .invokevirtual 113, 12, 0, 510, 0),
  (11, 3, .ifCond .eq 13, 24, 0, 0, 0),
  (14, 1, .aload_n 0, 0, 0, 0, 0),
  (15, 3, .getfield 22, 5, 2, 210, 0),
  (18, 3, .getfield 117, 0, 1, 108, 0),
  (21, 3, .goto 5, 26, 0, 0, 0),
  (24, 2, .bipush (-2), 0, 0, 0, (-2)),
  (26, 1, .ireturn, 0, 0, 0, 0)]
def mX5_undo : Mth := (yX5_undo, RX5, cX5_undo, 1, (some .int), (3, 0, 0), (507, 508, 31, 509), [], tX5_undo, 0)
def tX5_which : List En := [
  (0, 1, .iload_n 1, 0, 0, 0, 0),
  (1, 3, .ifCond .lt 8, 9, 0, 0, 0),
  (4, 1, .iload_n 1, 0, 0, 0, 0),
  (5, 1, .iconst 1, 0, 0, 0, 1),
  (6, 3, .if_icmp .le 5, 11, 0, 0, 0),
  (9, 1, .iconst (-1), 0, 0, 0, (-1)),
  (10, 1, .ireturn, 0, 0, 0, 0),
  (11, 1, .aload_n 0, 0, 0, 0, 0),
  (12, 3, .getfield 43, 5, 5, 213, 0),
  (15, 1, .aload_n 0, 0, 0, 0, 0),
  (16, 3, .getfield 10, 5, 0, 208, 0),
  (19, 3, .invokevirtual 196, 68, 0, 611, 0),
  (22, 1, .istore_n 2, 0, 0, 0, 0),
  (23, 1, .iload_n 1, 0, 0, 0, 0),
  (24, 3, .ifCond .ne 8, 32, 0, 0, 0),
  (27, 1, .iload_n 2, 0, 0, 0, 0),
  (28, 3, .invokestatic 199, 7, 0, 625, 0),
  (31, 1, .ireturn, 0, 0, 0, 0),
  (32, 1, .iload_n 2, 0, 0, 0, 0),
  (33, 3, .ifCond .ne 8, 41, 0, 0, 0),
  (36, 2, .bipush (-9), 0, 0, 0, (-9)),
  (38, 3, .goto 7, 45, 0, 0, 0),
  (41, 1, .iload_n 2, 0, 0, 0, 0),
  (42, 3, .invokestatic 204, 8, 0, 626, 0),
  (45, 1, .ireturn, 0, 0, 0, 0)]
def mX5_which : Mth := (yX5_which, RX5, cX5_which, 3, (some .int), (5, 0, 0), (608, 609, 31, 610), [], tX5_which, 1)
def tX6_areNear : List En := [
  (0, 1, .aload_n 0, 0, 0, 0, 0),
  (1, 1, .iload_n 1, 0, 0, 0, 0),
  (2, 1, .iconst 0, 0, 0, 0, 0),
  (3, 3, .invokevirtual 132, 146, 0, 848, 0),
  (6, 1, .istore_n 3, 0, 0, 0, 0),
  (7, 1, .aload_n 0, 0, 0, 0, 0),
  (8, 1, .iload_n 1, 0, 0, 0, 0),
  (9, 1, .iconst 1, 0, 0, 0, 1),
  (10, 3, .invokevirtual 132, 146, 0, 848, 0),
  (13, 2, .istore 4, 0, 0, 0, 0),
  (15, 1, .aload_n 0, 0, 0, 0, 0),
  (16, 1, .iload_n 2, 0, 0, 0, 0),
  (17, 1, .iconst 0, 0, 0, 0, 0),
  (18, 3, .invokevirtual 132, 146, 0, 848, 0),
  (21, 2, .istore 5, 0, 0, 0, 0),
  (23, 1, .aload_n 0, 0, 0, 0, 0),
  (24, 1, .iload_n 2, 0, 0, 0, 0),
  (25, 1, .iconst 1, 0, 0, 0, 1),
  (26, 3, .invokevirtual 132, 146, 0, 848, 0),
  (29, 2, .istore 6, 0, 0, 0, 0),
  (31, 1, .iload_n 3, 0, 0, 0, 0),
  (32, 1, .iload_n 3, 0, 0, 0, 0),
  (33, 1, .imul, 0, 0, 0, 0),
  (34, 2, .iload 4, 0, 0, 0, 0),
  (36, 2, .iload 4, 0, 0, 0, 0),
  (38, 1, .imul, 0, 0, 0, 0),
  (39, 1, .iadd, 0, 0, 0, 0),
  (40, 2, .istore 7, 0, 0, 0, 0),
  (42, 2, .iload 5, 0, 0, 0, 0),
  (44, 2, .iload 5, 0, 0, 0, 0),
  (46, 1, .imul, 0, 0, 0, 0),
  (47, 2, .iload 6, 0, 0, 0, 0),
  (49, 2, .iload 6, 0, 0, 0, 0),
  (51, 1, .imul, 0, 0, 0, 0),
  (52, 1, .iadd, 0, 0, 0, 0),
  (53, 2, .istore 8, 0, 0, 0, 0),
  (55, 1, .iload_n 3, 0, 0, 0, 0),
  (56, 2, .iload 5, 0, 0, 0, 0),
  (58, 1, .imul, 0, 0, 0, 0),
  (59, 2, .iload 4, 0, 0, 0, 0),
  (61, 2, .iload 6, 0, 0, 0, 0),
  (63, 1, .imul, 0, 0, 0, 0),
  (64, 1, .iadd, 0, 0, 0, 0),
  (65, 2, .istore 9, 0, 0, 0, 0),
  (67, 2, .iload 7, 0, 0, 0, 0),
  (69, 3, .ifCond .eq 30, 99, 0, 0, 0),
  (72, 2, .iload 8, 0, 0, 0, 0),
  (74, 3, .ifCond .eq 25, 99, 0, 0, 0),
  (77, 2, .iload 9, 0, 0, 0, 0),
  (79, 3, .ifCond .le 24, 103, 0, 0, 0),
  (82, 1, .iconst 4, 0, 0, 0, 4),
  (83, 2, .iload 9, 0, 0, 0, 0),
  (85, 1, .imul, 0, 0, 0, 0),
  (86, 2, .iload 9, 0, 0, 0, 0),
  (88, 1, .imul, 0, 0, 0, 0),
  (89, 1, .iconst 3, 0, 0, 0, 3),
  (90, 2, .iload 7, 0, 0, 0, 0),
  (92, 1, .imul, 0, 0, 0, 0),
  (93, 2, .iload 8, 0, 0, 0, 0),
  (95, 1, .imul, 0, 0, 0, 0),
  (96, 3, .if_icmp .le 7, 103, 0, 0, 0),
  (99, 1, .iconst 1, 0, 0, 0, 1),
  (100, 3, .goto 4, 104, 0, 0, 0),
  (103, 1, .iconst 0, 0, 0, 0, 0),
  (104, 1, .ireturn, 0, 0, 0, 0)]
def mX6_areNear : Mth := (yX6_areNear, RX6, cX6_areNear, 10, (some .boolean), (2, 0, 0), (846, 21, 37, 847), [], tX6_areNear, 2)
def tX6_back : List En := [
  (0, 1, .iload_n 1, 0, 0, 0, 0),
  (1, 1, .iconst 0, 0, 0, 0, 0),
  (2, 1, .iconst 1, 0, 0, 0, 1),
  (3, 3, .invokestatic 58, 113, 0, 729, 0),
  (6, 3, .ifCond .ne 5, 11, 0, 0, 0),
  (9, 1, .iconst (-1), 0, 0, 0, (-1)),
  (10, 1, .ireturn, 0, 0, 0, 0),
  (11, 1, .aload_n 0, 0, 0, 0, 0),
  (12, 3, .getfield 22, 6, 5, 660, 0),
  (15, 1, .iload_n 1, 0, 0, 0, 0),
  (16, 1, .baload, 0, 0, 0, 0),
  (17, 3, .ifCond .ne 6, 23, 0, 0, 0),
  (20, 2, .bipush (-2), 0, 0, 0, (-2)),
  (22, 1, .ireturn, 0, 0, 0, 0),
  (23, 1, .aload_n 0, 0, 0, 0, 0),
  (24, 3, .getfield 19, 6, 4, 659, 0),
  (27, 2, .bipush 64, 0, 0, 0, 64),
  (29, 1, .iload_n 1, 0, 0, 0, 0),
  (30, 1, .imul, 0, 0, 0, 0),
  (31, 1, .aload_n 0, 0, 0, 0, 0),
  (32, 3, .getfield 7, 6, 0, 655, 0),
  (35, 1, .iconst 0, 0, 0, 0, 0),
  (36, 3, .invokestatic 47, 98, 0, 652, 0),
  (39, 1, .aload_n 0, 0, 0, 0, 0),
  (40, 1, .iconst 0, 0, 0, 0, 0),
  (41, 3, .putfield 51, 6, 3, 658, 0),
  (44, 1, .aload_n 0, 0, 0, 0, 0),
  (45, 3, .getfield 7, 6, 0, 655, 0),
  (48, 2, .bipush 13, 0, 0, 0, 13),
  (50, 1, .iaload, 0, 0, 0, 0),
  (51, 1, .ireturn, 0, 0, 0, 0)]
def mX6_back : Mth := (yX6_back, RX6, cX6_back, 2, (some .int), (1, 0, 0), (932, 933, 37, 934), [], tX6_back, 1)
def tX6_beginRead : List En := [
  (0, 1, .iconst 0, 0, 0, 0, 0),
  (1, 1, .istore_n 1, 0, 0, 0, 0),
  (2, 1, .iload_n 1, 0, 0, 0, 0),
  (3, 2, .bipush 64, 0, 0, 0, 64),
  (5, 3, .if_icmp .ge 27, 32, 0, 0, 0),
  (8, 1, .aload_n 0, 0, 0, 0, 0),
  (9, 3, .getfield 13, 6, 1, 656, 0),
  (12, 1, .iload_n 1, 0, 0, 0, 0),
  (13, 1, .iload_n 1, 0, 0, 0, 0),
  (14, 2, .bipush 56, 0, 0, 0, 56),
  (16, 3, .if_icmp .ge 7, 23, 0, 0, 0),
  (19, 1, .iconst 0, 0, 0, 0, 0),
  (20, 3, .goto 5, 25, 0, 0, 0),
  (23, 2, .bipush (-9), 0, 0, 0, (-9)),
  (25, 1, .iastore, 0, 0, 0, 0),
  (26, 3, .iinc 1 1, 0, 0, 0, 1),
  (29, 3, .goto (-27), 2, 0, 0, 0),
  (32, 1, .aload_n 0, 0, 0, 0, 0),
  (33, 3, .getfield 13, 6, 1, 656, 0),
  (36, 1, .iconst 0, 0, 0, 0, 0),
  (37, 1, .iconst 3, 0, 0, 0, 3),
  (38, 1, .iastore, 0, 0, 0, 0),
  (39, 1, .aload_n 0, 0, 0, 0, 0),
  (40, 3, .getfield 13, 6, 1, 656, 0),
  (43, 1, .iconst 1, 0, 0, 0, 1),
  (44, 1, .iconst 5, 0, 0, 0, 5),
  (45, 1, .iastore, 0, 0, 0, 0),
  (46, 1, .aload_n 0, 0, 0, 0, 0),
  (47, 3, .getfield 13, 6, 1, 656, 0),
  (50, 1, .iconst 2, 0, 0, 0, 2),
  (51, 2, .bipush 6, 0, 0, 0, 6),
  (53, 1, .iastore, 0, 0, 0, 0),
  (54, 1, .aload_n 0, 0, 0, 0, 0),
  (55, 3, .getfield 13, 6, 1, 656, 0),
  (58, 1, .iconst 3, 0, 0, 0, 3),
  (59, 1, .iconst 5, 0, 0, 0, 5),
  (60, 1, .iastore, 0, 0, 0, 0),
  (61, 1, .return_, 0, 0, 0, 0)]
def mX6_beginRead : Mth := (yX6_beginRead, RX6, cX6_beginRead, 2, none, (0, 0, 0), (650, 0, 37, 651), [2], tX6_beginRead, 0)
def tX6_best : List En := [
  (0, 1, .iload_n 1, 0, 0, 0, 0),
  (1, 2, .bipush (-2), 0, 0, 0, (-2)),
  (3, 3, .if_icmp .lt 13, 16, 0, 0, 0),
  (6, 1, .iload_n 1, 0, 0, 0, 0),
  (7, 1, .aload_n 0, 0, 0, 0, 0),
  (8, 3, .getfield 7, 6, 0, 655, 0),
  (11, 1, .iconst 4, 0, 0, 0, 4),
  (12, 1, .iaload, 0, 0, 0, 0),
  (13, 3, .if_icmp .lt 5, 18, 0, 0, 0),
  (16, 1, .iconst (-1), 0, 0, 0, (-1)),
  (17, 1, .ireturn, 0, 0, 0, 0),
  (18, 1, .aload_n 0, 0, 0, 0, 0),
  (19, 3, .invokevirtual 183, 109, 0, 821, 0),
  (22, 3, .ifCond .ne 6, 28, 0, 0, 0),
  (25, 2, .bipush (-9), 0, 0, 0, (-9)),
  (27, 1, .ireturn, 0, 0, 0, 0),
  (28, 1, .iload_n 1, 0, 0, 0, 0),
  (29, 2, .bipush (-2), 0, 0, 0, (-2)),
  (31, 3, .if_icmp .ne 10, 41, 0, 0, 0),
  (34, 1, .aload_n 0, 0, 0, 0, 0),
  (35, 3, .getfield 174, 6, 22, 677, 0),
  (38, 3, .goto 21, 59, 0, 0, 0),
  (41, 1, .iload_n 1, 0, 0, 0, 0),
  (42, 1, .iconst (-1), 0, 0, 0, (-1)),
  (43, 3, .if_icmp .ne 10, 53, 0, 0, 0),
  (46, 1, .aload_n 0, 0, 0, 0, 0),
  (47, 3, .getfield 162, 6, 21, 676, 0),
  (50, 3, .goto 9, 59, 0, 0, 0),
  (53, 1, .aload_n 0, 0, 0, 0, 0),
  (54, 3, .getfield 41, 6, 20, 675, 0),
  (57, 1, .iload_n 1, 0, 0, 0, 0),
  (58, 1, .iaload, 0, 0, 0, 0),
  (59, 1, .ireturn, 0, 0, 0, 0)]
def mX6_best : Mth := (yX6_best, RX6, cX6_best, 2, (some .int), (8, 0, 0), (894, 895, 37, 896), [], tX6_best, 1)
def tX6_bring : List En := [
  (0, 1, .iconst 0, 0, 0, 0, 0),
  (1, 2, .istore 4, 0, 0, 0, 0),
  (3, 2, .iload 4, 0, 0, 0, 0),
  (5, 2, .bipush 64, 0, 0, 0, 64),
  (7, 3, .if_icmp .ge 21, 28, 0, 0, 0),
  (10, 1, .aload_n 2, 0, 0, 0, 0),
  (11, 1, .iload_n 3, 0, 0, 0, 0),
  (12, 2, .iload 4, 0, 0, 0, 0),
  (14, 1, .iadd, 0, 0, 0, 0),
  (15, 1, .aload_n 0, 0, 0, 0, 0),
  (16, 1, .iload_n 1, 0, 0, 0, 0),
  (17, 2, .iload 4, 0, 0, 0, 0),
  (19, 1, .iadd, 0, 0, 0, 0),
  (20, 1, .iaload, 0, 0, 0, 0),
  (21, 1, .iastore, 0, 0, 0, 0),
  (22, 3, .iinc 4 1, 0, 0, 0, 1),
  (25, 3, .goto (-22), 3, 0, 0, 0),
  (28, 1, .return_, 0, 0, 0, 0)]
def mX6_bring : Mth := (yX6_bring, RX6, cX6_bring, 5, none, (0, 0, 0), (653, 0, 37, 654), [3], tX6_bring, 4)
def tX6_canCut : List En := [
  (0, 1, .aload_n 0, 0, 0, 0, 0),
  (1, 1, .iload_n 1, 0, 0, 0, 0),
  (2, 1, .iconst 3, 0, 0, 0, 3),
  (3, 3, .invokevirtual 129, 130, 0, 805, 0),
  (6, 1, .aload_n 0, 0, 0, 0, 0),
  (7, 1, .iload_n 2, 0, 0, 0, 0),
  (8, 1, .iconst 3, 0, 0, 0, 3),
  (9, 3, .invokevirtual 129, 130, 0, 805, 0),
  (12, 1, .isub, 0, 0, 0, 0),
  (13, 1, .istore_n 3, 0, 0, 0, 0),
  (14, 1, .aload_n 0, 0, 0, 0, 0),
  (15, 1, .iload_n 1, 0, 0, 0, 0),
  (16, 1, .iconst 2, 0, 0, 0, 2),
  (17, 3, .invokevirtual 129, 130, 0, 805, 0),
  (20, 1, .aload_n 0, 0, 0, 0, 0),
  (21, 1, .iload_n 2, 0, 0, 0, 0),
  (22, 1, .iconst 2, 0, 0, 0, 2),
  (23, 3, .invokevirtual 129, 130, 0, 805, 0),
  (26, 3, .if_icmp .ne 25, 51, 0, 0, 0),
  (29, 1, .iload_n 3, 0, 0, 0, 0),
  (30, 1, .iconst (-1), 0, 0, 0, (-1)),
  (31, 1, .iconst 1, 0, 0, 0, 1),
  (32, 3, .invokestatic 58, 113, 0, 729, 0),
  (35, 3, .ifCond .eq 16, 51, 0, 0, 0),
  (38, 1, .aload_n 0, 0, 0, 0, 0),
  (39, 1, .iload_n 1, 0, 0, 0, 0),
  (40, 1, .iload_n 2, 0, 0, 0, 0),
  (41, 3, .invokevirtual 135, 94, 0, 844, 0),
  (44, 3, .ifCond .eq 7, 51, 0, 0, 0),
  (47, 1, .iconst 1, 0, 0, 0, 1),
  (48, 3, .goto 4, 52, 0, 0, 0),
  (51, 1, .iconst 0, 0, 0, 0, 0),
  (52, 2, .istore 4, 0, 0, 0, 0),
  (54, 1, .iload_n 1, 0, 0, 0, 0),
  (55, 1, .iload_n 2, 0, 0, 0, 0),
  (56, 3, .if_icmp .eq 27, 83, 0, 0, 0),
  (59, 1, .aload_n 0, 0, 0, 0, 0),
  (60, 1, .iload_n 1, 0, 0, 0, 0),
  (61, 3, .invokevirtual 139, 140, 0, 852, 0),
  (64, 1, .aload_n 0, 0, 0, 0, 0),
  (65, 1, .iload_n 2, 0, 0, 0, 0),
  (66, 3, .invokevirtual 139, 140, 0, 852, 0),
  (69, 1, .imul, 0, 0, 0, 0),
  (70, 1, .iconst (-1), 0, 0, 0, (-1)),
  (71, 3, .if_icmp .eq 12, 83, 0, 0, 0),
  (74, 2, .iload 4, 0, 0, 0, 0),
  (76, 3, .ifCond .ne 7, 83, 0, 0, 0),
  (79, 1, .iconst 1, 0, 0, 0, 1),
  (80, 3, .goto 4, 84, 0, 0, 0),
  (83, 1, .iconst 0, 0, 0, 0, 0),
  (84, 1, .ireturn, 0, 0, 0, 0)]
def mX6_canCut : Mth := (yX6_canCut, RX6, cX6_canCut, 5, (some .boolean), (3, 0, 0), (842, 20, 37, 843), [52], tX6_canCut, 2)
def tX6_cheapest : List En := [
  (0, 1, .iload_n 1, 0, 0, 0, 0),
  (1, 1, .iconst 0, 0, 0, 0, 0),
  (2, 1, .iconst 1, 0, 0, 0, 1),
  (3, 3, .invokestatic 58, 113, 0, 729, 0),
  (6, 3, .ifCond .ne 5, 11, 0, 0, 0),
  (9, 1, .iconst (-1), 0, 0, 0, (-1)),
  (10, 1, .ireturn, 0, 0, 0, 0),
  (11, 2, .bipush (-9), 0, 0, 0, (-9)),
  (13, 1, .istore_n 2, 0, 0, 0, 0),
  (14, 1, .iconst 0, 0, 0, 0, 0),
  (15, 1, .istore_n 3, 0, 0, 0, 0),
  (16, 1, .iload_n 3, 0, 0, 0, 0),
  (17, 1, .iconst 1, 0, 0, 0, 1),
  (18, 1, .aload_n 0, 0, 0, 0, 0),
  (19, 3, .getfield 7, 6, 0, 655, 0),
  (22, 2, .bipush 13, 0, 0, 0, 13),
  (24, 1, .iaload, 0, 0, 0, 0),
  (25, 1, .ishl, 0, 0, 0, 0),
  (26, 3, .if_icmp .ge 39, 65, 0, 0, 0),
  (29, 1, .iload_n 2, 0, 0, 0, 0),
  (30, 2, .bipush (-9), 0, 0, 0, (-9)),
  (32, 3, .if_icmp .eq 17, 49, 0, 0, 0),
  (35, 1, .aload_n 0, 0, 0, 0, 0),
  (36, 1, .iload_n 3, 0, 0, 0, 0),
  (37, 3, .invokevirtual 194, 106, 0, 901, 0),
  (40, 1, .aload_n 0, 0, 0, 0, 0),
  (41, 1, .iload_n 2, 0, 0, 0, 0),
  (42, 3, .invokevirtual 194, 106, 0, 901, 0),
  (45, 1, .fcmp .g, 0, 0, 0, 0),
  (46, 3, .ifCond .ge 13, 59, 0, 0, 0),
  (49, 1, .aload_n 0, 0, 0, 0, 0),
  (50, 1, .iload_n 3, 0, 0, 0, 0),
  (51, 3, .invokevirtual 168, 111, 0, 828, 0),
  (54, 3, .ifCond .eq 5, 59, 0, 0, 0),
  (57, 1, .iload_n 3, 0, 0, 0, 0),
  (58, 1, .istore_n 2, 0, 0, 0, 0),
  (59, 3, .iinc 3 1, 0, 0, 0, 1),
  (62, 3, .goto (-46), 16, 0, 0, 0),
  (65, 1, .iload_n 2, 0, 0, 0, 0),
  (66, 2, .bipush (-9), 0, 0, 0, (-9)),
  (68, 3, .if_icmp .ne 8, 76, 0, 0, 0),
  (71, 2, .bipush (-9), 0, 0, 0, (-9)),
  (73, 3, .goto 20, 93, 0, 0, 0),
  (76, 1, .iload_n 1, 0, 0, 0, 0),
  (77, 3, .ifCond .ne 7, 84, 0, 0, 0),
  (80, 1, .iload_n 2, 0, 0, 0, 0),
  (81, 3, .goto 12, 93, 0, 0, 0),
  (84, 2, .ldc 198, 1148846080, 1, 906, 0),
  (86, 1, .aload_n 0, 0, 0, 0, 0),
  (87, 1, .iload_n 2, 0, 0, 0, 0),
  (88, 3, .invokevirtual 194, 106, 0, 901, 0),
  (91, 1, .fmul, 0, 0, 0, 0),
  (92, 1, .f2i, 0, 0, 0, 0),
  (93, 1, .ireturn, 0, 0, 0, 0)]
def mX6_cheapest : Mth := (yX6_cheapest, RX6, cX6_cheapest, 4, (some .int), (7, 0, 0), (898, 899, 37, 900), [16, 49, 59], tX6_cheapest, 1)
def tX6_clear : List En := [
  (0, 1, .aload_n 0, 0, 0, 0, 0),
  (1, 3, .getfield 55, 6, 7, 662, 0),
  (4, 1, .istore_n 1, 0, 0, 0, 0),
  (5, 1, .aload_n 0, 0, 0, 0, 0),
  (6, 1, .iconst 0, 0, 0, 0, 0),
  (7, 3, .putfield 55, 6, 7, 662, 0),
  (10, 1, .iload_n 1, 0, 0, 0, 0),
  (11, 1, .ireturn, 0, 0, 0, 0)]
def mX6_clear : Mth := (yX6_clear, RX6, cX6_clear, 2, (some .int), (0, 0, 0), (733, 734, 37, 735), [], tX6_clear, 0)
def tX6_count : List En := [
  (0, 1, .iload_n 1, 0, 0, 0, 0),
  (1, 35, .tableswitch 65 0 4 #[35, 42, 50, 55, 60], 66, 0, 0, 0),
  (36, 1, .aload_n 0, 0, 0, 0, 0),
  (37, 3, .getfield 7, 6, 0, 655, 0),
  (40, 1, .iconst 4, 0, 0, 0, 4),
  (41, 1, .iaload, 0, 0, 0, 0),
  (42, 1, .ireturn, 0, 0, 0, 0),
  (43, 1, .aload_n 0, 0, 0, 0, 0),
  (44, 3, .getfield 7, 6, 0, 655, 0),
  (47, 2, .bipush 13, 0, 0, 0, 13),
  (49, 1, .iaload, 0, 0, 0, 0),
  (50, 1, .ireturn, 0, 0, 0, 0),
  (51, 1, .aload_n 0, 0, 0, 0, 0),
  (52, 3, .getfield 199, 6, 13, 668, 0),
  (55, 1, .ireturn, 0, 0, 0, 0),
  (56, 1, .aload_n 0, 0, 0, 0, 0),
  (57, 3, .getfield 55, 6, 7, 662, 0),
  (60, 1, .ireturn, 0, 0, 0, 0),
  (61, 1, .aload_n 0, 0, 0, 0, 0),
  (62, 3, .getfield 51, 6, 3, 658, 0),
  (65, 1, .ireturn, 0, 0, 0, 0),
  (66, 1, .iconst (-1), 0, 0, 0, (-1)),
  (67, 1, .ireturn, 0, 0, 0, 0)]
def mX6_count : Mth := (yX6_count, RX6, cX6_count, 2, (some .int), (0, 0, 0), (936, 937, 37, 938), [], tX6_count, 1)
def tX6_covers : List En := [
  (0, 1, .iload_n 2, 0, 0, 0, 0),
  (1, 1, .aload_n 0, 0, 0, 0, 0),
  (2, 1, .iload_n 1, 0, 0, 0, 0),
  (3, 1, .iconst 4, 0, 0, 0, 4),
  (4, 3, .invokevirtual 129, 130, 0, 805, 0),
  (7, 1, .aload_n 0, 0, 0, 0, 0),
  (8, 1, .iload_n 1, 0, 0, 0, 0),
  (9, 1, .iconst 5, 0, 0, 0, 5),
  (10, 3, .invokevirtual 129, 130, 0, 805, 0),
  (13, 3, .invokestatic 58, 113, 0, 729, 0),
  (16, 1, .ireturn, 0, 0, 0, 0)]
def mX6_covers : Mth := (yX6_covers, RX6, cX6_covers, 3, (some .boolean), (1, 0, 0), (803, 14, 37, 804), [], tX6_covers, 2)
def tX6_coversOf : List En := [
  (0, 1, .iconst 0, 0, 0, 0, 0),
  (1, 1, .istore_n 2, 0, 0, 0, 0),
  (2, 1, .iconst 0, 0, 0, 0, 0),
  (3, 1, .istore_n 3, 0, 0, 0, 0),
  (4, 1, .iload_n 3, 0, 0, 0, 0),
  (5, 1, .aload_n 0, 0, 0, 0, 0),
  (6, 3, .getfield 7, 6, 0, 655, 0),
  (9, 2, .bipush 13, 0, 0, 0, 13),
  (11, 1, .iaload, 0, 0, 0, 0),
  (12, 3, .if_icmp .ge 28, 40, 0, 0, 0),
  (15, 1, .iload_n 2, 0, 0, 0, 0),
  (16, 1, .aload_n 0, 0, 0, 0, 0),
  (17, 1, .iload_n 3, 0, 0, 0, 0),
  (18, 1, .iload_n 1, 0, 0, 0, 0),
  (19, 3, .invokevirtual 149, 103, 0, 801, 0),
  (22, 3, .ifCond .eq 9, 31, 0, 0, 0),
  (25, 1, .iconst 1, 0, 0, 0, 1),
  (26, 1, .iload_n 3, 0, 0, 0, 0),
  (27, 1, .ishl, 0, 0, 0, 0),
  (28, 3, .goto 4, 32, 0, 0, 0),
  (31, 1, .iconst 0, 0, 0, 0, 0),
  (32, 1, .ior, 0, 0, 0, 0),
  (33, 1, .istore_n 2, 0, 0, 0, 0),
  (34, 3, .iinc 3 1, 0, 0, 0, 1),
  (37, 3, .goto (-33), 4, 0, 0, 0),
  (40, 1, .iload_n 2, 0, 0, 0, 0),
  (41, 1, .ireturn, 0, 0, 0, 0)]
def mX6_coversOf : Mth := (yX6_coversOf, RX6, cX6_coversOf, 4, (some .int), (2, 0, 0), (874, 26, 37, 875), [4], tX6_coversOf, 1)
def tX6_cutsOf : List En := [
  (0, 1, .iconst 0, 0, 0, 0, 0),
  (1, 1, .istore_n 2, 0, 0, 0, 0),
  (2, 1, .iconst 0, 0, 0, 0, 0),
  (3, 1, .istore_n 3, 0, 0, 0, 0),
  (4, 1, .iload_n 3, 0, 0, 0, 0),
  (5, 1, .aload_n 0, 0, 0, 0, 0),
  (6, 3, .getfield 7, 6, 0, 655, 0),
  (9, 2, .bipush 13, 0, 0, 0, 13),
  (11, 1, .iaload, 0, 0, 0, 0),
  (12, 3, .if_icmp .ge 28, 40, 0, 0, 0),
  (15, 1, .iload_n 2, 0, 0, 0, 0),
  (16, 1, .aload_n 0, 0, 0, 0, 0),
  (17, 1, .iload_n 1, 0, 0, 0, 0),
  (18, 1, .iload_n 3, 0, 0, 0, 0),
  (19, 3, .invokevirtual 143, 99, 0, 840, 0),
  (22, 3, .ifCond .eq 9, 31, 0, 0, 0),
  (25, 1, .iconst 1, 0, 0, 0, 1),
  (26, 1, .iload_n 3, 0, 0, 0, 0),
  (27, 1, .ishl, 0, 0, 0, 0),
  (28, 3, .goto 4, 32, 0, 0, 0),
  (31, 1, .iconst 0, 0, 0, 0, 0),
  (32, 1, .ior, 0, 0, 0, 0),
  (33, 1, .istore_n 2, 0, 0, 0, 0),
  (34, 3, .iinc 3 1, 0, 0, 0, 1),
  (37, 3, .goto (-33), 4, 0, 0, 0),
  (40, 1, .iload_n 2, 0, 0, 0, 0),
  (41, 1, .ireturn, 0, 0, 0, 0)]
def mX6_cutsOf : Mth := (yX6_cutsOf, RX6, cX6_cutsOf, 4, (some .int), (4, 0, 0), (883, 27, 37, 884), [4], tX6_cutsOf, 1)
def tX6_dearOf : List En := [
  (0, 1, .fconst 0, 0, 0, 0, 0),
  (1, 1, .fstore_n 2, 0, 0, 0, 0),
  (2, 1, .iconst 0, 0, 0, 0, 0),
  (3, 1, .istore_n 3, 0, 0, 0, 0),
  (4, 1, .iload_n 3, 0, 0, 0, 0),
  (5, 1, .aload_n 0, 0, 0, 0, 0),
  (6, 3, .getfield 7, 6, 0, 655, 0),
  (9, 2, .bipush 13, 0, 0, 0, 13),
  (11, 1, .iaload, 0, 0, 0, 0),
  (12, 3, .if_icmp .ge 32, 44, 0, 0, 0),
  (15, 1, .iload_n 1, 0, 0, 0, 0),
  (16, 1, .iload_n 3, 0, 0, 0, 0),
  (17, 1, .ishr, 0, 0, 0, 0),
  (18, 1, .iconst 1, 0, 0, 0, 1),
  (19, 1, .iand, 0, 0, 0, 0),
  (20, 1, .iconst 1, 0, 0, 0, 1),
  (21, 3, .if_icmp .ne 17, 38, 0, 0, 0),
  (24, 1, .fload_n 2, 0, 0, 0, 0),
  (25, 1, .aload_n 0, 0, 0, 0, 0),
  (26, 1, .iload_n 3, 0, 0, 0, 0),
  (27, 2, .bipush 6, 0, 0, 0, 6),
  (29, 3, .invokevirtual 129, 130, 0, 805, 0),
  (32, 1, .i2f, 0, 0, 0, 0),
  (33, 2, .ldc 193, 1077936128, 1, 905, 0),
  (35, 1, .fdiv, 0, 0, 0, 0),
  (36, 1, .fadd, 0, 0, 0, 0),
  (37, 1, .fstore_n 2, 0, 0, 0, 0),
  (38, 3, .iinc 3 1, 0, 0, 0, 1),
  (41, 3, .goto (-37), 4, 0, 0, 0),
  (44, 1, .fload_n 2, 0, 0, 0, 0),
  (45, 1, .freturn, 0, 0, 0, 0)]
def mX6_dearOf : Mth := (yX6_dearOf, RX6, cX6_dearOf, 4, (some .float), (1, 0, 0), (903, 28, 37, 904), [4], tX6_dearOf, 1)
def tX6_edit : List En := [
  (0, 1, .iload_n 1, 0, 0, 0, 0),
  (1, 1, .iconst 0, 0, 0, 0, 0),
  (2, 1, .iconst 4, 0, 0, 0, 4),
  (3, 3, .invokestatic 58, 113, 0, 729, 0),
  (6, 3, .ifCond .ne 5, 11, 0, 0, 0),
  (9, 1, .iconst (-1), 0, 0, 0, (-1)),
  (10, 1, .ireturn, 0, 0, 0, 0),
  (11, 1, .iconst 0, 0, 0, 0, 0),
  (12, 1, .istore_n 2, 0, 0, 0, 0),
  (13, 1, .iconst 0, 0, 0, 0, 0),
  (14, 1, .istore_n 3, 0, 0, 0, 0),
  (15, 1, .iconst 0, 0, 0, 0, 0),
  (16, 2, .istore 4, 0, 0, 0, 0),
  (18, 2, .iload 4, 0, 0, 0, 0),
  (20, 1, .aload_n 0, 0, 0, 0, 0),
  (21, 3, .getfield 7, 6, 0, 655, 0),
  (24, 1, .iconst 4, 0, 0, 0, 4),
  (25, 1, .iaload, 0, 0, 0, 0),
  (26, 3, .if_icmp .ge 193, 219, 0, 0, 0),
  (29, 1, .aload_n 0, 0, 0, 0, 0),
  (30, 3, .getfield 7, 6, 0, 655, 0),
  (33, 2, .bipush 56, 0, 0, 0, 56),
  (35, 2, .iload 4, 0, 0, 0, 0),
  (37, 1, .iadd, 0, 0, 0, 0),
  (38, 1, .iaload, 0, 0, 0, 0),
  (39, 2, .istore 5, 0, 0, 0, 0),
  (41, 1, .iload_n 2, 0, 0, 0, 0),
  (42, 2, .iload 5, 0, 0, 0, 0),
  (44, 2, .bipush (-9), 0, 0, 0, (-9)),
  (46, 3, .if_icmp .ne 7, 53, 0, 0, 0),
  (49, 1, .iconst 0, 0, 0, 0, 0),
  (50, 3, .goto 7, 57, 0, 0, 0),
  (53, 1, .iconst 1, 0, 0, 0, 1),
  (54, 2, .iload 5, 0, 0, 0, 0),
  (56, 1, .ishl, 0, 0, 0, 0),
  (57, 1, .ior, 0, 0, 0, 0),
  (58, 1, .istore_n 2, 0, 0, 0, 0),
  (59, 1, .iload_n 3, 0, 0, 0, 0),
  (60, 1, .iload_n 1, 0, 0, 0, 0),
  (61, 3, .ifCond .ne 14, 75, 0, 0, 0),
  (64, 2, .iload 5, 0, 0, 0, 0),
  (66, 2, .bipush (-9), 0, 0, 0, (-9)),
  (68, 3, .if_icmp .ne 7, 75, 0, 0, 0),
  (71, 1, .iconst 1, 0, 0, 0, 1),
  (72, 3, .goto 4, 76, 0, 0, 0),
  (75, 1, .iconst 0, 0, 0, 0, 0),
  (76, 1, .iadd, 0, 0, 0, 0),
  (77, 1, .istore_n 3, 0, 0, 0, 0),
  (78, 2, .iload 4, 0, 0, 0, 0),
  (80, 1, .iconst 1, 0, 0, 0, 1),
  (81, 1, .iadd, 0, 0, 0, 0),
  (82, 1, .aload_n 0, 0, 0, 0, 0),
  (83, 3, .getfield 7, 6, 0, 655, 0),
  (86, 1, .iconst 4, 0, 0, 0, 4),
  (87, 1, .iaload, 0, 0, 0, 0),
  (88, 3, .if_icmp .ge 125, 213, 0, 0, 0),
  (91, 1, .aload_n 0, 0, 0, 0, 0),
  (92, 3, .getfield 7, 6, 0, 655, 0),
  (95, 2, .bipush 56, 0, 0, 0, 56),
  (97, 2, .iload 4, 0, 0, 0, 0),
  (99, 1, .iadd, 0, 0, 0, 0),
  (100, 1, .iconst 1, 0, 0, 0, 1),
  (101, 1, .iadd, 0, 0, 0, 0),
  (102, 1, .iaload, 0, 0, 0, 0),
  (103, 2, .istore 6, 0, 0, 0, 0),
  (105, 2, .iload 5, 0, 0, 0, 0),
  (107, 2, .bipush (-9), 0, 0, 0, (-9)),
  (109, 3, .if_icmp .eq 21, 130, 0, 0, 0),
  (112, 2, .iload 6, 0, 0, 0, 0),
  (114, 2, .bipush (-9), 0, 0, 0, (-9)),
  (116, 3, .if_icmp .eq 14, 130, 0, 0, 0),
  (119, 2, .iload 5, 0, 0, 0, 0),
  (121, 2, .iload 6, 0, 0, 0, 0),
  (123, 3, .if_icmp .eq 7, 130, 0, 0, 0),
  (126, 1, .iconst 1, 0, 0, 0, 1),
  (127, 3, .goto 4, 131, 0, 0, 0),
  (130, 1, .iconst 0, 0, 0, 0, 0),
  (131, 2, .istore 7, 0, 0, 0, 0),
  (133, 1, .iload_n 1, 0, 0, 0, 0),
  (134, 1, .iconst 1, 0, 0, 0, 1),
  (135, 3, .if_icmp .ne 19, 154, 0, 0, 0),
  (138, 2, .iload 7, 0, 0, 0, 0),
  (140, 3, .ifCond .eq 14, 154, 0, 0, 0),
  (143, 1, .aload_n 0, 0, 0, 0, 0),
  (144, 2, .iload 5, 0, 0, 0, 0),
  (146, 2, .iload 6, 0, 0, 0, 0),
  (148, 3, .invokevirtual 143, 99, 0, 840, 0),
  (151, 3, .ifCond .eq 42, 193, 0, 0, 0),
  (154, 1, .iload_n 1, 0, 0, 0, 0),
  (155, 1, .iconst 2, 0, 0, 0, 2),
  (156, 3, .if_icmp .ne 27, 183, 0, 0, 0),
  (159, 1, .aload_n 0, 0, 0, 0, 0),
  (160, 2, .iload 4, 0, 0, 0, 0),
  (162, 2, .iload 5, 0, 0, 0, 0),
  (164, 3, .invokevirtual 146, 120, 0, 856, 0),
  (167, 3, .ifCond .eq 16, 183, 0, 0, 0),
  (170, 1, .aload_n 0, 0, 0, 0, 0),
  (171, 2, .iload 4, 0, 0, 0, 0),
  (173, 1, .iconst 1, 0, 0, 0, 1),
  (174, 1, .iadd, 0, 0, 0, 0),
  (175, 2, .iload 6, 0, 0, 0, 0),
  (177, 3, .invokevirtual 146, 120, 0, 856, 0),
  (180, 3, .ifCond .ne 13, 193, 0, 0, 0),
  (183, 1, .iload_n 1, 0, 0, 0, 0),
  (184, 1, .iconst 3, 0, 0, 0, 3),
  (185, 3, .if_icmp .ne 12, 197, 0, 0, 0),
  (188, 2, .iload 7, 0, 0, 0, 0),
  (190, 3, .ifCond .eq 7, 197, 0, 0, 0),
  (193, 1, .iconst 1, 0, 0, 0, 1),
  (194, 3, .goto 4, 198, 0, 0, 0),
  (197, 1, .iconst 0, 0, 0, 0, 0),
  (198, 2, .istore 8, 0, 0, 0, 0),
  (200, 1, .iload_n 3, 0, 0, 0, 0),
  (201, 2, .iload 8, 0, 0, 0, 0),
  (203, 3, .ifCond .eq 7, 210, 0, 0, 0),
  (206, 1, .iconst 1, 0, 0, 0, 1),
  (207, 3, .goto 4, 211, 0, 0, 0),
  (210, 1, .iconst 0, 0, 0, 0, 0),
  (211, 1, .iadd, 0, 0, 0, 0),
  (212, 1, .istore_n 3, 0, 0, 0, 0),
  (213, 3, .iinc 4 1, 0, 0, 0, 1),
  (216, 3, .goto (-198), 18, 0, 0, 0),
  (219, 1, .iload_n 1, 0, 0, 0, 0),
  (220, 1, .iconst 4, 0, 0, 0, 4),
  (221, 3, .if_icmp .ne 10, 231, 0, 0, 0),
  (224, 1, .iload_n 2, 0, 0, 0, 0),
  (225, 3, .invokestatic 165, 131, 0, 825, 0),
  (228, 3, .goto 4, 232, 0, 0, 0),
  (231, 1, .iload_n 3, 0, 0, 0, 0),
  (232, 1, .ireturn, 0, 0, 0, 0)]
def mX6_edit : Mth := (yX6_edit, RX6, cX6_edit, 9, (some .int), (4, 0, 0), (890, 891, 37, 892), [18, 57, 76, 131, 198, 211, 213], tX6_edit, 1)
def tX6_figure : List En := [
  (0, 1, .aload_n 0, 0, 0, 0, 0),
  (1, 3, .invokevirtual 92, 128, 0, 744, 0),
  (4, 1, .aload_n 0, 0, 0, 0, 0),
  (5, 3, .getfield 72, 6, 9, 664, 0),
  (8, 3, .sipush 1002, 0, 0, 0, 1002),
  (11, 3, .if_icmp .ne 31, 42, 0, 0, 0),
  (14, 1, .aload_n 0, 0, 0, 0, 0),
  (15, 3, .getfield 66, 6, 8, 663, 0),
  (18, 1, .aload_n 0, 0, 0, 0, 0),
  (19, 3, .getfield 69, 6, 10, 665, 0),
  (22, 1, .iconst 1, 0, 0, 0, 1),
  (23, 1, .iadd, 0, 0, 0, 0),
  (24, 3, .if_icmp .ne 18, 42, 0, 0, 0),
  (27, 1, .aload_n 0, 0, 0, 0, 0),
  (28, 3, .getfield 26, 6, 6, 661, 0),
  (31, 1, .aload_n 0, 0, 0, 0, 0),
  (32, 3, .getfield 69, 6, 10, 665, 0),
  (35, 1, .iaload, 0, 0, 0, 0),
  (36, 2, .bipush 48, 0, 0, 0, 48),
  (38, 1, .isub, 0, 0, 0, 0),
  (39, 3, .goto 5, 44, 0, 0, 0),
  (42, 2, .bipush (-9), 0, 0, 0, (-9)),
  (44, 1, .istore_n 3, 0, 0, 0, 0),
  (45, 1, .iload_n 3, 0, 0, 0, 0),
  (46, 1, .iload_n 1, 0, 0, 0, 0),
  (47, 1, .iload_n 2, 0, 0, 0, 0),
  (48, 3, .invokestatic 58, 113, 0, 729, 0),
  (51, 3, .ifCond .eq 7, 58, 0, 0, 0),
  (54, 1, .iload_n 3, 0, 0, 0, 0),
  (55, 3, .goto 5, 60, 0, 0, 0),
  (58, 2, .bipush (-9), 0, 0, 0, (-9)),
  (60, 1, .ireturn, 0, 0, 0, 0)]
def mX6_figure : Mth := (yX6_figure, RX6, cX6_figure, 4, (some .int), (3, 0, 0), (771, 7, 37, 772), [44], tX6_figure, 2)
def tX6_findBest : List En := [
  (0, 1, .iconst 0, 0, 0, 0, 0),
  (1, 1, .istore_n 1, 0, 0, 0, 0),
  (2, 1, .iload_n 1, 0, 0, 0, 0),
  (3, 1, .aload_n 0, 0, 0, 0, 0),
  (4, 3, .getfield 7, 6, 0, 655, 0),
  (7, 2, .bipush 13, 0, 0, 0, 13),
  (9, 1, .iaload, 0, 0, 0, 0),
  (10, 3, .if_icmp .gt 110, 120, 0, 0, 0),
  (13, 1, .iconst 0, 0, 0, 0, 0),
  (14, 1, .istore_n 2, 0, 0, 0, 0),
  (15, 1, .iconst 0, 0, 0, 0, 0),
  (16, 1, .istore_n 3, 0, 0, 0, 0),
  (17, 1, .iload_n 3, 0, 0, 0, 0),
  (18, 1, .iconst 1, 0, 0, 0, 1),
  (19, 1, .aload_n 0, 0, 0, 0, 0),
  (20, 3, .getfield 7, 6, 0, 655, 0),
  (23, 2, .bipush 13, 0, 0, 0, 13),
  (25, 1, .iaload, 0, 0, 0, 0),
  (26, 1, .ishl, 0, 0, 0, 0),
  (27, 3, .if_icmp .ge 81, 108, 0, 0, 0),
  (30, 1, .iload_n 3, 0, 0, 0, 0),
  (31, 3, .invokestatic 165, 131, 0, 825, 0),
  (34, 1, .iload_n 1, 0, 0, 0, 0),
  (35, 3, .if_icmp .ne 67, 102, 0, 0, 0),
  (38, 1, .aload_n 0, 0, 0, 0, 0),
  (39, 1, .iload_n 3, 0, 0, 0, 0),
  (40, 3, .invokevirtual 168, 111, 0, 828, 0),
  (43, 3, .ifCond .eq 59, 102, 0, 0, 0),
  (46, 1, .iload_n 2, 0, 0, 0, 0),
  (47, 3, .ifCond .eq 10, 57, 0, 0, 0),
  (50, 1, .aload_n 0, 0, 0, 0, 0),
  (51, 3, .invokevirtual 171, 115, 0, 860, 0),
  (54, 3, .ifCond .eq 48, 102, 0, 0, 0),
  (57, 1, .iconst 1, 0, 0, 0, 1),
  (58, 1, .istore_n 2, 0, 0, 0, 0),
  (59, 1, .aload_n 0, 0, 0, 0, 0),
  (60, 1, .iload_n 1, 0, 0, 0, 0),
  (61, 3, .putfield 174, 6, 22, 677, 0),
  (64, 1, .aload_n 0, 0, 0, 0, 0),
  (65, 1, .aload_n 0, 0, 0, 0, 0),
  (66, 3, .getfield 159, 6, 19, 674, 0),
  (69, 3, .putfield 162, 6, 21, 676, 0),
  (72, 1, .iconst 0, 0, 0, 0, 0),
  (73, 2, .istore 4, 0, 0, 0, 0),
  (75, 2, .iload 4, 0, 0, 0, 0),
  (77, 2, .bipush 8, 0, 0, 0, 8),
  (79, 3, .if_icmp .ge 23, 102, 0, 0, 0),
  (82, 1, .aload_n 0, 0, 0, 0, 0),
  (83, 3, .getfield 41, 6, 20, 675, 0),
  (86, 2, .iload 4, 0, 0, 0, 0),
  (88, 1, .aload_n 0, 0, 0, 0, 0),
  (89, 3, .getfield 38, 6, 18, 673, 0),
  (92, 2, .iload 4, 0, 0, 0, 0),
  (94, 1, .iaload, 0, 0, 0, 0),
  (95, 1, .iastore, 0, 0, 0, 0),
  (96, 3, .iinc 4 1, 0, 0, 0, 1),
  (99, 3, .goto (-24), 75, 0, 0, 0),
  (102, 3, .iinc 3 1, 0, 0, 0, 1),
  (105, 3, .goto (-88), 17, 0, 0, 0),
  (108, 1, .iload_n 2, 0, 0, 0, 0),
  (109, 3, .ifCond .eq 5, 114, 0, 0, 0),
  (112, 1, .iconst 1, 0, 0, 0, 1),
  (113, 1, .ireturn, 0, 0, 0, 0),
  (114, 3, .iinc 1 1, 0, 0, 0, 1),
  (117, 3, .goto (-115), 2, 0, 0, 0),
  (120, 1, .iconst 0, 0, 0, 0, 0),
  (121, 1, .ireturn, 0, 0, 0, 0)]
def mX6_findBest : Mth := (yX6_findBest, RX6, cX6_findBest, 5, (some .boolean), (7, 0, 0), (823, 16, 37, 824), [2, 17, 57, 75, 102], tX6_findBest, 0)
def tX6_findCuts : List En := [
  (0, 1, .aload_n 0, 0, 0, 0, 0),
  (1, 3, .getfield 7, 6, 0, 655, 0),
  (4, 1, .iconst 4, 0, 0, 0, 4),
  (5, 1, .iaload, 0, 0, 0, 0),
  (6, 1, .istore_n 2, 0, 0, 0, 0),
  (7, 1, .iload_n 2, 0, 0, 0, 0),
  (8, 1, .iconst 1, 0, 0, 0, 1),
  (9, 1, .isub, 0, 0, 0, 0),
  (10, 1, .istore_n 3, 0, 0, 0, 0),
  (11, 1, .iload_n 3, 0, 0, 0, 0),
  (12, 3, .ifCond .lt 178, 190, 0, 0, 0),
  (15, 1, .iconst 0, 0, 0, 0, 0),
  (16, 2, .istore 4, 0, 0, 0, 0),
  (18, 2, .iload 4, 0, 0, 0, 0),
  (20, 2, .bipush 6, 0, 0, 0, 6),
  (22, 3, .if_icmp .ge 162, 184, 0, 0, 0),
  (25, 3, .sipush 1000, 0, 0, 0, 1000),
  (28, 2, .istore 5, 0, 0, 0, 0),
  (30, 1, .iload_n 1, 0, 0, 0, 0),
  (31, 2, .iload 4, 0, 0, 0, 0),
  (33, 1, .ishr, 0, 0, 0, 0),
  (34, 1, .iconst 1, 0, 0, 0, 1),
  (35, 1, .iand, 0, 0, 0, 0),
  (36, 1, .iconst 1, 0, 0, 0, 1),
  (37, 3, .if_icmp .ne 17, 54, 0, 0, 0),
  (40, 1, .aload_n 0, 0, 0, 0, 0),
  (41, 2, .iload 4, 0, 0, 0, 0),
  (43, 1, .iload_n 3, 0, 0, 0, 0),
  (44, 3, .invokevirtual 149, 103, 0, 801, 0),
  (47, 3, .ifCond .eq 7, 54, 0, 0, 0),
  (50, 1, .iconst 1, 0, 0, 0, 1),
  (51, 3, .goto 4, 55, 0, 0, 0),
  (54, 1, .iconst 0, 0, 0, 0, 0),
  (55, 2, .istore 6, 0, 0, 0, 0),
  (57, 1, .iconst 0, 0, 0, 0, 0),
  (58, 2, .istore 7, 0, 0, 0, 0),
  (60, 2, .iload 7, 0, 0, 0, 0),
  (62, 2, .bipush 6, 0, 0, 0, 6),
  (64, 3, .if_icmp .ge 78, 142, 0, 0, 0),
  (67, 2, .iload 6, 0, 0, 0, 0),
  (69, 3, .ifCond .eq 73, 142, 0, 0, 0),
  (72, 1, .iload_n 3, 0, 0, 0, 0),
  (73, 1, .iload_n 2, 0, 0, 0, 0),
  (74, 1, .iconst 1, 0, 0, 0, 1),
  (75, 1, .isub, 0, 0, 0, 0),
  (76, 3, .if_icmp .ge 66, 142, 0, 0, 0),
  (79, 1, .aload_n 0, 0, 0, 0, 0),
  (80, 3, .getfield 35, 6, 17, 672, 0),
  (83, 2, .bipush 6, 0, 0, 0, 6),
  (85, 1, .iload_n 3, 0, 0, 0, 0),
  (86, 1, .iconst 1, 0, 0, 0, 1),
  (87, 1, .iadd, 0, 0, 0, 0),
  (88, 1, .imul, 0, 0, 0, 0),
  (89, 2, .iload 7, 0, 0, 0, 0),
  (91, 1, .iadd, 0, 0, 0, 0),
  (92, 1, .iaload, 0, 0, 0, 0),
  (93, 2, .iload 4, 0, 0, 0, 0),
  (95, 2, .iload 7, 0, 0, 0, 0),
  (97, 3, .if_icmp .ne 7, 104, 0, 0, 0),
  (100, 1, .iconst 0, 0, 0, 0, 0),
  (101, 3, .goto 4, 105, 0, 0, 0),
  (104, 1, .iconst 1, 0, 0, 0, 1),
  (105, 1, .iadd, 0, 0, 0, 0),
  (106, 2, .istore 8, 0, 0, 0, 0),
  (108, 2, .iload 8, 0, 0, 0, 0),
  (110, 2, .iload 5, 0, 0, 0, 0),
  (112, 3, .if_icmp .ge 20, 132, 0, 0, 0),
  (115, 1, .aload_n 0, 0, 0, 0, 0),
  (116, 1, .iload_n 3, 0, 0, 0, 0),
  (117, 2, .iload 4, 0, 0, 0, 0),
  (119, 2, .iload 7, 0, 0, 0, 0),
  (121, 3, .invokevirtual 152, 126, 0, 836, 0),
  (124, 3, .ifCond .eq 8, 132, 0, 0, 0),
  (127, 2, .iload 8, 0, 0, 0, 0),
  (129, 3, .goto 5, 134, 0, 0, 0),
  (132, 2, .iload 5, 0, 0, 0, 0),
  (134, 2, .istore 5, 0, 0, 0, 0),
  (136, 3, .iinc 7 1, 0, 0, 0, 1),
  (139, 3, .goto (-79), 60, 0, 0, 0),
  (142, 1, .aload_n 0, 0, 0, 0, 0),
  (143, 3, .getfield 35, 6, 17, 672, 0),
  (146, 2, .bipush 6, 0, 0, 0, 6),
  (148, 1, .iload_n 3, 0, 0, 0, 0),
  (149, 1, .imul, 0, 0, 0, 0),
  (150, 2, .iload 4, 0, 0, 0, 0),
  (152, 1, .iadd, 0, 0, 0, 0),
  (153, 2, .iload 6, 0, 0, 0, 0),
  (155, 3, .ifCond .ne 9, 164, 0, 0, 0),
  (158, 3, .sipush 1000, 0, 0, 0, 1000),
  (161, 3, .goto 16, 177, 0, 0, 0),
  (164, 1, .iload_n 3, 0, 0, 0, 0),
  (165, 1, .iload_n 2, 0, 0, 0, 0),
  (166, 1, .iconst 1, 0, 0, 0, 1),
  (167, 1, .isub, 0, 0, 0, 0),
  (168, 3, .if_icmp .ne 7, 175, 0, 0, 0),
  (171, 1, .iconst 0, 0, 0, 0, 0),
  (172, 3, .goto 5, 177, 0, 0, 0),
  (175, 2, .iload 5, 0, 0, 0, 0),
  (177, 1, .iastore, 0, 0, 0, 0),
  (178, 3, .iinc 4 1, 0, 0, 0, 1),
  (181, 3, .goto (-163), 18, 0, 0, 0),
  (184, 3, .iinc 3 (-1), 0, 0, 0, (-1)),
  (187, 3, .goto (-176), 11, 0, 0, 0),
  (190, 1, .return_, 0, 0, 0, 0)]
def mX6_findCuts : Mth := (yX6_findCuts, RX6, cX6_findCuts, 9, none, (5, 0, 0), (834, 18, 37, 835), [11, 18, 55, 60, 105, 134, 177], tX6_findCuts, 1)
def tX6_findWay : List En := [
  (0, 1, .aload_n 0, 0, 0, 0, 0),
  (1, 3, .getfield 7, 6, 0, 655, 0),
  (4, 1, .iconst 4, 0, 0, 0, 4),
  (5, 1, .iaload, 0, 0, 0, 0),
  (6, 1, .istore_n 2, 0, 0, 0, 0),
  (7, 1, .aload_n 0, 0, 0, 0, 0),
  (8, 1, .iload_n 1, 0, 0, 0, 0),
  (9, 3, .invokevirtual 155, 110, 0, 832, 0),
  (12, 1, .aload_n 0, 0, 0, 0, 0),
  (13, 1, .iload_n 2, 0, 0, 0, 0),
  (14, 3, .ifCond .ne 7, 21, 0, 0, 0),
  (17, 1, .iconst 0, 0, 0, 0, 0),
  (18, 3, .goto 6, 24, 0, 0, 0),
  (21, 3, .sipush 1000, 0, 0, 0, 1000),
  (24, 3, .putfield 159, 6, 19, 674, 0),
  (27, 1, .iconst 0, 0, 0, 0, 0),
  (28, 1, .istore_n 3, 0, 0, 0, 0),
  (29, 1, .iload_n 3, 0, 0, 0, 0),
  (30, 2, .bipush 6, 0, 0, 0, 6),
  (32, 3, .if_icmp .ge 43, 75, 0, 0, 0),
  (35, 1, .iload_n 2, 0, 0, 0, 0),
  (36, 3, .ifCond .le 39, 75, 0, 0, 0),
  (39, 1, .aload_n 0, 0, 0, 0, 0),
  (40, 1, .aload_n 0, 0, 0, 0, 0),
  (41, 3, .getfield 35, 6, 17, 672, 0),
  (44, 1, .iload_n 3, 0, 0, 0, 0),
  (45, 1, .iaload, 0, 0, 0, 0),
  (46, 1, .aload_n 0, 0, 0, 0, 0),
  (47, 3, .getfield 159, 6, 19, 674, 0),
  (50, 3, .if_icmp .ge 12, 62, 0, 0, 0),
  (53, 1, .aload_n 0, 0, 0, 0, 0),
  (54, 3, .getfield 35, 6, 17, 672, 0),
  (57, 1, .iload_n 3, 0, 0, 0, 0),
  (58, 1, .iaload, 0, 0, 0, 0),
  (59, 3, .goto 7, 66, 0, 0, 0),
  (62, 1, .aload_n 0, 0, 0, 0, 0),
  (63, 3, .getfield 159, 6, 19, 674, 0),
  (66, 3, .putfield 159, 6, 19, 674, 0),
  (69, 3, .iinc 3 1, 0, 0, 0, 1),
  (72, 3, .goto (-43), 29, 0, 0, 0),
  (75, 1, .aload_n 0, 0, 0, 0, 0),
  (76, 3, .getfield 159, 6, 19, 674, 0),
  (79, 3, .sipush 1000, 0, 0, 0, 1000),
  (82, 3, .if_icmp .lt 5, 87, 0, 0, 0),
  (85, 1, .iconst 0, 0, 0, 0, 0),
  (86, 1, .ireturn, 0, 0, 0, 0),
  (87, 1, .aload_n 0, 0, 0, 0, 0),
  (88, 3, .getfield 159, 6, 19, 674, 0),
  (91, 1, .istore_n 3, 0, 0, 0, 0),
  (92, 1, .iconst 0, 0, 0, 0, 0),
  (93, 2, .istore 4, 0, 0, 0, 0),
  (95, 2, .iload 4, 0, 0, 0, 0),
  (97, 1, .iload_n 2, 0, 0, 0, 0),
  (98, 3, .if_icmp .ge 110, 208, 0, 0, 0),
  (101, 1, .iconst 0, 0, 0, 0, 0),
  (102, 2, .istore 5, 0, 0, 0, 0),
  (104, 1, .aload_n 0, 0, 0, 0, 0),
  (105, 3, .getfield 35, 6, 17, 672, 0),
  (108, 2, .bipush 6, 0, 0, 0, 6),
  (110, 2, .iload 4, 0, 0, 0, 0),
  (112, 1, .imul, 0, 0, 0, 0),
  (113, 2, .iload 5, 0, 0, 0, 0),
  (115, 1, .iadd, 0, 0, 0, 0),
  (116, 1, .iaload, 0, 0, 0, 0),
  (117, 2, .iload 4, 0, 0, 0, 0),
  (119, 3, .ifCond .le 21, 140, 0, 0, 0),
  (122, 1, .aload_n 0, 0, 0, 0, 0),
  (123, 3, .getfield 38, 6, 18, 673, 0),
  (126, 2, .iload 4, 0, 0, 0, 0),
  (128, 1, .iconst 1, 0, 0, 0, 1),
  (129, 1, .isub, 0, 0, 0, 0),
  (130, 1, .iaload, 0, 0, 0, 0),
  (131, 2, .iload 5, 0, 0, 0, 0),
  (133, 3, .if_icmp .eq 7, 140, 0, 0, 0),
  (136, 1, .iconst 1, 0, 0, 0, 1),
  (137, 3, .goto 4, 141, 0, 0, 0),
  (140, 1, .iconst 0, 0, 0, 0, 0),
  (141, 1, .iadd, 0, 0, 0, 0),
  (142, 1, .iload_n 3, 0, 0, 0, 0),
  (143, 3, .if_icmp .ne 30, 173, 0, 0, 0),
  (146, 2, .iload 4, 0, 0, 0, 0),
  (148, 3, .ifCond .le 31, 179, 0, 0, 0),
  (151, 1, .aload_n 0, 0, 0, 0, 0),
  (152, 2, .iload 4, 0, 0, 0, 0),
  (154, 1, .iconst 1, 0, 0, 0, 1),
  (155, 1, .isub, 0, 0, 0, 0),
  (156, 1, .aload_n 0, 0, 0, 0, 0),
  (157, 3, .getfield 38, 6, 18, 673, 0),
  (160, 2, .iload 4, 0, 0, 0, 0),
  (162, 1, .iconst 1, 0, 0, 0, 1),
  (163, 1, .isub, 0, 0, 0, 0),
  (164, 1, .iaload, 0, 0, 0, 0),
  (165, 2, .iload 5, 0, 0, 0, 0),
  (167, 3, .invokevirtual 152, 126, 0, 836, 0),
  (170, 3, .ifCond .ne 9, 179, 0, 0, 0),
  (173, 3, .iinc 5 1, 0, 0, 0, 1),
  (176, 3, .goto (-72), 104, 0, 0, 0),
  (179, 1, .aload_n 0, 0, 0, 0, 0),
  (180, 3, .getfield 35, 6, 17, 672, 0),
  (183, 2, .bipush 6, 0, 0, 0, 6),
  (185, 2, .iload 4, 0, 0, 0, 0),
  (187, 1, .imul, 0, 0, 0, 0),
  (188, 2, .iload 5, 0, 0, 0, 0),
  (190, 1, .iadd, 0, 0, 0, 0),
  (191, 1, .iaload, 0, 0, 0, 0),
  (192, 1, .istore_n 3, 0, 0, 0, 0),
  (193, 1, .aload_n 0, 0, 0, 0, 0),
  (194, 3, .getfield 38, 6, 18, 673, 0),
  (197, 2, .iload 4, 0, 0, 0, 0),
  (199, 2, .iload 5, 0, 0, 0, 0),
  (201, 1, .iastore, 0, 0, 0, 0),
  (202, 3, .iinc 4 1, 0, 0, 0, 1),
  (205, 3, .goto (-110), 95, 0, 0, 0),
  (208, 1, .iconst 1, 0, 0, 0, 1),
  (209, 1, .ireturn, 0, 0, 0, 0)]
def mX6_findWay : Mth := (yX6_findWay, RX6, cX6_findWay, 6, (some .boolean), (6, 0, 0), (830, 17, 37, 831), [29, 66, 95, 104, 141, 173, 179], tX6_findWay, 1)
def tX6_forget : List En := [
  (0, 1, .aload_n 0, 0, 0, 0, 0),
  (1, 3, .getfield 199, 6, 13, 668, 0),
  (4, 1, .istore_n 1, 0, 0, 0, 0),
  (5, 1, .aload_n 0, 0, 0, 0, 0),
  (6, 1, .iconst 0, 0, 0, 0, 0),
  (7, 3, .putfield 199, 6, 13, 668, 0),
  (10, 1, .iload_n 1, 0, 0, 0, 0),
  (11, 1, .ireturn, 0, 0, 0, 0)]
def mX6_forget : Mth := (yX6_forget, RX6, cX6_forget, 2, (some .int), (0, 0, 0), (916, 917, 37, 918), [], tX6_forget, 0)
def tX6_in : List En := [
  (0, 1, .iload_n 0, 0, 0, 0, 0),
  (1, 1, .iload_n 1, 0, 0, 0, 0),
  (2, 3, .if_icmp .lt 12, 14, 0, 0, 0),
  (5, 1, .iload_n 0, 0, 0, 0, 0),
  (6, 1, .iload_n 2, 0, 0, 0, 0),
  (7, 3, .if_icmp .gt 7, 14, 0, 0, 0),
  (10, 1, .iconst 1, 0, 0, 0, 1),
  (11, 3, .goto 4, 15, 0, 0, 0),
  (14, 1, .iconst 0, 0, 0, 0, 0),
  (15, 1, .ireturn, 0, 0, 0, 0)]
def mX6_in : Mth := (yX6_in, RX6, cX6_in, 3, (some .boolean), (0, 0, 0), (730, 0, 37, 731), [], tX6_in, 3)
def tX6_init : List En := [
  (0, 1, .aload_n 0, 0, 0, 0, 0),
  (1, 3, .invokespecial 1, 0, 2, 647, 0),
  (4, 1, .aload_n 0, 0, 0, 0, 0),
  (5, 2, .bipush 64, 0, 0, 0, 64),
  (7, 2, .newarray .int, 0, 0, 0, 0),
  (9, 3, .putfield 7, 6, 0, 655, 0),
  (12, 1, .aload_n 0, 0, 0, 0, 0),
  (13, 2, .bipush 64, 0, 0, 0, 64),
  (15, 2, .newarray .int, 0, 0, 0, 0),
  (17, 3, .putfield 13, 6, 1, 656, 0),
  (20, 1, .aload_n 0, 0, 0, 0, 0),
  (21, 3, .sipush 512, 0, 0, 0, 512),
  (24, 2, .newarray .int, 0, 0, 0, 0),
  (26, 3, .putfield 16, 6, 2, 657, 0),
  (29, 1, .aload_n 0, 0, 0, 0, 0),
  (30, 3, .sipush 128, 0, 0, 0, 128),
  (33, 2, .newarray .int, 0, 0, 0, 0),
  (35, 3, .putfield 19, 6, 4, 659, 0),
  (38, 1, .aload_n 0, 0, 0, 0, 0),
  (39, 1, .iconst 2, 0, 0, 0, 2),
  (40, 2, .newarray .boolean, 1, 0, 0, 0),
  (42, 3, .putfield 22, 6, 5, 660, 0),
  (45, 1, .aload_n 0, 0, 0, 0, 0),
  (46, 3, .sipush 160, 0, 0, 0, 160),
  (49, 2, .newarray .int, 0, 0, 0, 0),
  (51, 3, .putfield 26, 6, 6, 661, 0),
  (54, 1, .aload_n 0, 0, 0, 0, 0),
  (55, 2, .bipush 6, 0, 0, 0, 6),
  (57, 2, .newarray .int, 0, 0, 0, 0),
  (59, 3, .putfield 29, 6, 11, 666, 0),
  (62, 1, .aload_n 0, 0, 0, 0, 0),
  (63, 2, .bipush 6, 0, 0, 0, 6),
  (65, 2, .newarray .int, 0, 0, 0, 0),
  (67, 3, .putfield 32, 6, 12, 667, 0),
  (70, 1, .aload_n 0, 0, 0, 0, 0),
  (71, 2, .bipush 48, 0, 0, 0, 48),
  (73, 2, .newarray .int, 0, 0, 0, 0),
  (75, 3, .putfield 35, 6, 17, 672, 0),
  (78, 1, .aload_n 0, 0, 0, 0, 0),
  (79, 2, .bipush 8, 0, 0, 0, 8),
  (81, 2, .newarray .int, 0, 0, 0, 0),
  (83, 3, .putfield 38, 6, 18, 673, 0),
  (86, 1, .aload_n 0, 0, 0, 0, 0),
  (87, 2, .bipush 8, 0, 0, 0, 8),
  (89, 2, .newarray .int, 0, 0, 0, 0),
  (91, 3, .putfield 41, 6, 20, 675, 0),
  (94, 1, .aload_n 0, 0, 0, 0, 0),
  (95, 3, .invokevirtual 44, 96, 0, 648, 0),
  (98, 1, .aload_n 0, 0, 0, 0, 0),
  (99, 3, .getfield 13, 6, 1, 656, 0),
  (102, 1, .iconst 0, 0, 0, 0, 0),
  (103, 1, .aload_n 0, 0, 0, 0, 0),
  (104, 3, .getfield 7, 6, 0, 655, 0),
  (107, 1, .iconst 0, 0, 0, 0, 0),
  (108, 3, .invokestatic 47, 98, 0, 652, 0),
  (111, 1, .return_, 0, 0, 0, 0)]
def mX6_init : Mth := (yX6_init, RX6, cX6_init, 1, none, (1, 20, 2000), (645, 0, 37, 646), [], tX6_init, 0)
def tX6_isBefore : List En := [
  (0, 1, .aload_n 0, 0, 0, 0, 0),
  (1, 3, .getfield 159, 6, 19, 674, 0),
  (4, 1, .aload_n 0, 0, 0, 0, 0),
  (5, 3, .getfield 162, 6, 21, 676, 0),
  (8, 3, .if_icmp .eq 20, 28, 0, 0, 0),
  (11, 1, .aload_n 0, 0, 0, 0, 0),
  (12, 3, .getfield 159, 6, 19, 674, 0),
  (15, 1, .aload_n 0, 0, 0, 0, 0),
  (16, 3, .getfield 162, 6, 21, 676, 0),
  (19, 3, .if_icmp .ge 7, 26, 0, 0, 0),
  (22, 1, .iconst 1, 0, 0, 0, 1),
  (23, 3, .goto 4, 27, 0, 0, 0),
  (26, 1, .iconst 0, 0, 0, 0, 0),
  (27, 1, .ireturn, 0, 0, 0, 0),
  (28, 1, .iconst 0, 0, 0, 0, 0),
  (29, 1, .istore_n 1, 0, 0, 0, 0),
  (30, 1, .iload_n 1, 0, 0, 0, 0),
  (31, 1, .aload_n 0, 0, 0, 0, 0),
  (32, 3, .getfield 7, 6, 0, 655, 0),
  (35, 1, .iconst 4, 0, 0, 0, 4),
  (36, 1, .iaload, 0, 0, 0, 0),
  (37, 3, .if_icmp .ge 45, 82, 0, 0, 0),
  (40, 1, .aload_n 0, 0, 0, 0, 0),
  (41, 3, .getfield 38, 6, 18, 673, 0),
  (44, 1, .iload_n 1, 0, 0, 0, 0),
  (45, 1, .iaload, 0, 0, 0, 0),
  (46, 1, .aload_n 0, 0, 0, 0, 0),
  (47, 3, .getfield 41, 6, 20, 675, 0),
  (50, 1, .iload_n 1, 0, 0, 0, 0),
  (51, 1, .iaload, 0, 0, 0, 0),
  (52, 3, .if_icmp .eq 24, 76, 0, 0, 0),
  (55, 1, .aload_n 0, 0, 0, 0, 0),
  (56, 3, .getfield 38, 6, 18, 673, 0),
  (59, 1, .iload_n 1, 0, 0, 0, 0),
  (60, 1, .iaload, 0, 0, 0, 0),
  (61, 1, .aload_n 0, 0, 0, 0, 0),
  (62, 3, .getfield 41, 6, 20, 675, 0),
  (65, 1, .iload_n 1, 0, 0, 0, 0),
  (66, 1, .iaload, 0, 0, 0, 0),
  (67, 3, .if_icmp .ge 7, 74, 0, 0, 0),
  (70, 1, .iconst 1, 0, 0, 0, 1),
  (71, 3, .goto 4, 75, 0, 0, 0),
  (74, 1, .iconst 0, 0, 0, 0, 0),
  (75, 1, .ireturn, 0, 0, 0, 0),
  (76, 3, .iinc 1 1, 0, 0, 0, 1),
  (79, 3, .goto (-49), 30, 0, 0, 0),
  (82, 1, .iconst 0, 0, 0, 0, 0),
  (83, 1, .ireturn, 0, 0, 0, 0)]
def mX6_isBefore : Mth := (yX6_isBefore, RX6, cX6_isBefore, 2, (some .boolean), (0, 0, 0), (862, 25, 37, 863), [30], tX6_isBefore, 0)
def tX6_isEnded : List En := [
  (0, 1, .aload_n 0, 0, 0, 0, 0),
  (1, 3, .invokevirtual 92, 128, 0, 744, 0),
  (4, 1, .aload_n 0, 0, 0, 0, 0),
  (5, 3, .getfield 72, 6, 9, 664, 0),
  (8, 2, .bipush 59, 0, 0, 0, 59),
  (10, 3, .if_icmp .ne 7, 17, 0, 0, 0),
  (13, 1, .iconst 1, 0, 0, 0, 1),
  (14, 3, .goto 4, 18, 0, 0, 0),
  (17, 1, .iconst 0, 0, 0, 0, 0),
  (18, 1, .ireturn, 0, 0, 0, 0)]
def mX6_isEnded : Mth := (yX6_isEnded, RX6, cX6_isEnded, 1, (some .boolean), (3, 0, 0), (775, 8, 37, 776), [], tX6_isEnded, 0)
def tX6_isFigure : List En := [
  (0, 1, .iload_n 1, 0, 0, 0, 0),
  (1, 1, .aload_n 0, 0, 0, 0, 0),
  (2, 3, .getfield 55, 6, 7, 662, 0),
  (5, 3, .if_icmp .ge 23, 28, 0, 0, 0),
  (8, 1, .aload_n 0, 0, 0, 0, 0),
  (9, 3, .getfield 26, 6, 6, 661, 0),
  (12, 1, .iload_n 1, 0, 0, 0, 0),
  (13, 1, .iaload, 0, 0, 0, 0),
  (14, 2, .bipush 48, 0, 0, 0, 48),
  (16, 2, .bipush 57, 0, 0, 0, 57),
  (18, 3, .invokestatic 58, 113, 0, 729, 0),
  (21, 3, .ifCond .eq 7, 28, 0, 0, 0),
  (24, 1, .iconst 1, 0, 0, 0, 1),
  (25, 3, .goto 4, 29, 0, 0, 0),
  (28, 1, .iconst 0, 0, 0, 0, 0),
  (29, 1, .ireturn, 0, 0, 0, 0)]
def mX6_isFigure : Mth := (yX6_isFigure, RX6, cX6_isFigure, 2, (some .boolean), (1, 0, 0), (763, 5, 37, 764), [], tX6_isFigure, 1)
def tX6_isLetter : List En := [
  (0, 1, .iload_n 1, 0, 0, 0, 0),
  (1, 1, .aload_n 0, 0, 0, 0, 0),
  (2, 3, .getfield 55, 6, 7, 662, 0),
  (5, 3, .if_icmp .ge 23, 28, 0, 0, 0),
  (8, 1, .aload_n 0, 0, 0, 0, 0),
  (9, 3, .getfield 26, 6, 6, 661, 0),
  (12, 1, .iload_n 1, 0, 0, 0, 0),
  (13, 1, .iaload, 0, 0, 0, 0),
  (14, 2, .bipush 97, 0, 0, 0, 97),
  (16, 2, .bipush 122, 0, 0, 0, 122),
  (18, 3, .invokestatic 58, 113, 0, 729, 0),
  (21, 3, .ifCond .eq 7, 28, 0, 0, 0),
  (24, 1, .iconst 1, 0, 0, 0, 1),
  (25, 3, .goto 4, 29, 0, 0, 0),
  (28, 1, .iconst 0, 0, 0, 0, 0),
  (29, 1, .ireturn, 0, 0, 0, 0)]
def mX6_isLetter : Mth := (yX6_isLetter, RX6, cX6_isLetter, 2, (some .boolean), (1, 0, 0), (750, 3, 37, 751), [], tX6_isLetter, 1)
def tX6_isLine : List En := [
  (0, 1, .iload_n 1, 0, 0, 0, 0),
  (1, 1, .iconst 0, 0, 0, 0, 0),
  (2, 1, .aload_n 0, 0, 0, 0, 0),
  (3, 3, .getfield 7, 6, 0, 655, 0),
  (6, 1, .iconst 4, 0, 0, 0, 4),
  (7, 1, .iaload, 0, 0, 0, 0),
  (8, 1, .iconst 1, 0, 0, 0, 1),
  (9, 1, .isub, 0, 0, 0, 0),
  (10, 3, .invokestatic 58, 113, 0, 729, 0),
  (13, 1, .ireturn, 0, 0, 0, 0)]
def mX6_isLine : Mth := (yX6_isLine, RX6, cX6_isLine, 2, (some .boolean), (1, 0, 0), (795, 12, 37, 796), [], tX6_isLine, 1)
def tX6_isReaction : List En := [
  (0, 1, .iload_n 2, 0, 0, 0, 0),
  (1, 2, .bipush (-9), 0, 0, 0, (-9)),
  (3, 3, .if_icmp .eq 26, 29, 0, 0, 0),
  (6, 1, .aload_n 0, 0, 0, 0, 0),
  (7, 1, .iload_n 2, 0, 0, 0, 0),
  (8, 1, .iconst 2, 0, 0, 0, 2),
  (9, 3, .invokevirtual 129, 130, 0, 805, 0),
  (12, 1, .iconst 1, 0, 0, 0, 1),
  (13, 1, .aload_n 0, 0, 0, 0, 0),
  (14, 3, .getfield 7, 6, 0, 655, 0),
  (17, 1, .iconst 5, 0, 0, 0, 5),
  (18, 1, .iload_n 1, 0, 0, 0, 0),
  (19, 1, .iadd, 0, 0, 0, 0),
  (20, 1, .iaload, 0, 0, 0, 0),
  (21, 1, .isub, 0, 0, 0, 0),
  (22, 3, .if_icmp .ne 7, 29, 0, 0, 0),
  (25, 1, .iconst 1, 0, 0, 0, 1),
  (26, 3, .goto 4, 30, 0, 0, 0),
  (29, 1, .iconst 0, 0, 0, 0, 0),
  (30, 1, .ireturn, 0, 0, 0, 0)]
def mX6_isReaction : Mth := (yX6_isReaction, RX6, cX6_isReaction, 3, (some .boolean), (1, 0, 0), (858, 24, 37, 859), [], tX6_isReaction, 2)
def tX6_isShot : List En := [
  (0, 1, .iload_n 1, 0, 0, 0, 0),
  (1, 1, .iconst 0, 0, 0, 0, 0),
  (2, 1, .aload_n 0, 0, 0, 0, 0),
  (3, 3, .getfield 7, 6, 0, 655, 0),
  (6, 2, .bipush 13, 0, 0, 0, 13),
  (8, 1, .iaload, 0, 0, 0, 0),
  (9, 1, .iconst 1, 0, 0, 0, 1),
  (10, 1, .isub, 0, 0, 0, 0),
  (11, 3, .invokestatic 58, 113, 0, 729, 0),
  (14, 1, .ireturn, 0, 0, 0, 0)]
def mX6_isShot : Mth := (yX6_isShot, RX6, cX6_isShot, 2, (some .boolean), (1, 0, 0), (799, 13, 37, 800), [], tX6_isShot, 1)
def tX6_isSo : List En := [
  (0, 1, .iconst 1, 0, 0, 0, 1),
  (1, 1, .istore_n 2, 0, 0, 0, 0),
  (2, 1, .iconst 0, 0, 0, 0, 0),
  (3, 1, .istore_n 3, 0, 0, 0, 0),
  (4, 1, .iload_n 3, 0, 0, 0, 0),
  (5, 1, .aload_n 0, 0, 0, 0, 0),
  (6, 3, .getfield 199, 6, 13, 668, 0),
  (9, 3, .if_icmp .ge 63, 72, 0, 0, 0),
  (12, 1, .aload_n 0, 0, 0, 0, 0),
  (13, 3, .getfield 29, 6, 11, 666, 0),
  (16, 1, .iload_n 3, 0, 0, 0, 0),
  (17, 1, .iaload, 0, 0, 0, 0),
  (18, 1, .iconst 2, 0, 0, 0, 2),
  (19, 3, .if_icmp .ne 11, 30, 0, 0, 0),
  (22, 1, .aload_n 0, 0, 0, 0, 0),
  (23, 1, .iload_n 1, 0, 0, 0, 0),
  (24, 3, .invokevirtual 139, 140, 0, 852, 0),
  (27, 3, .goto 16, 43, 0, 0, 0),
  (30, 1, .aload_n 0, 0, 0, 0, 0),
  (31, 1, .iload_n 1, 0, 0, 0, 0),
  (32, 1, .iconst 2, 0, 0, 0, 2),
  (33, 1, .aload_n 0, 0, 0, 0, 0),
  (34, 3, .getfield 29, 6, 11, 666, 0),
  (37, 1, .iload_n 3, 0, 0, 0, 0),
  (38, 1, .iaload, 0, 0, 0, 0),
  (39, 1, .iadd, 0, 0, 0, 0),
  (40, 3, .invokevirtual 129, 130, 0, 805, 0),
  (43, 2, .istore 4, 0, 0, 0, 0),
  (45, 1, .iload_n 2, 0, 0, 0, 0),
  (46, 3, .ifCond .eq 18, 64, 0, 0, 0),
  (49, 2, .iload 4, 0, 0, 0, 0),
  (51, 1, .aload_n 0, 0, 0, 0, 0),
  (52, 3, .getfield 32, 6, 12, 667, 0),
  (55, 1, .iload_n 3, 0, 0, 0, 0),
  (56, 1, .iaload, 0, 0, 0, 0),
  (57, 3, .if_icmp .ne 7, 64, 0, 0, 0),
  (60, 1, .iconst 1, 0, 0, 0, 1),
  (61, 3, .goto 4, 65, 0, 0, 0),
  (64, 1, .iconst 0, 0, 0, 0, 0),
  (65, 1, .istore_n 2, 0, 0, 0, 0),
  (66, 3, .iinc 3 1, 0, 0, 0, 1),
  (69, 3, .goto (-65), 4, 0, 0, 0),
  (72, 1, .iload_n 2, 0, 0, 0, 0),
  (73, 1, .ireturn, 0, 0, 0, 0)]
def mX6_isSo : Mth := (yX6_isSo, RX6, cX6_isSo, 5, (some .boolean), (2, 0, 0), (925, 29, 37, 926), [4, 43, 65], tX6_isSo, 1)
def tX6_keep : List En := [
  (0, 1, .iload_n 1, 0, 0, 0, 0),
  (1, 1, .iconst 0, 0, 0, 0, 0),
  (2, 1, .iconst 1, 0, 0, 0, 1),
  (3, 3, .invokestatic 58, 113, 0, 729, 0),
  (6, 3, .ifCond .ne 5, 11, 0, 0, 0),
  (9, 1, .iconst (-1), 0, 0, 0, (-1)),
  (10, 1, .ireturn, 0, 0, 0, 0),
  (11, 1, .aload_n 0, 0, 0, 0, 0),
  (12, 3, .getfield 7, 6, 0, 655, 0),
  (15, 1, .iconst 0, 0, 0, 0, 0),
  (16, 1, .aload_n 0, 0, 0, 0, 0),
  (17, 3, .getfield 19, 6, 4, 659, 0),
  (20, 2, .bipush 64, 0, 0, 0, 64),
  (22, 1, .iload_n 1, 0, 0, 0, 0),
  (23, 1, .imul, 0, 0, 0, 0),
  (24, 3, .invokestatic 47, 98, 0, 652, 0),
  (27, 1, .aload_n 0, 0, 0, 0, 0),
  (28, 3, .getfield 22, 6, 5, 660, 0),
  (31, 1, .iload_n 1, 0, 0, 0, 0),
  (32, 1, .iconst 1, 0, 0, 0, 1),
  (33, 1, .bastore, 0, 0, 0, 0),
  (34, 1, .aload_n 0, 0, 0, 0, 0),
  (35, 3, .getfield 7, 6, 0, 655, 0),
  (38, 2, .bipush 13, 0, 0, 0, 13),
  (40, 1, .iaload, 0, 0, 0, 0),
  (41, 1, .ireturn, 0, 0, 0, 0)]
def mX6_keep : Mth := (yX6_keep, RX6, cX6_keep, 2, (some .int), (1, 0, 0), (928, 929, 37, 930), [], tX6_keep, 1)
def tX6_line : List En := [
  (0, 1, .aload_n 0, 0, 0, 0, 0),
  (1, 1, .iload_n 1, 0, 0, 0, 0),
  (2, 3, .invokevirtual 177, 119, 0, 793, 0),
  (5, 3, .ifCond .eq 12, 17, 0, 0, 0),
  (8, 1, .iload_n 2, 0, 0, 0, 0),
  (9, 1, .iconst 0, 0, 0, 0, 0),
  (10, 1, .iconst 3, 0, 0, 0, 3),
  (11, 3, .invokestatic 58, 113, 0, 729, 0),
  (14, 3, .ifCond .ne 5, 19, 0, 0, 0),
  (17, 1, .iconst (-1), 0, 0, 0, (-1)),
  (18, 1, .ireturn, 0, 0, 0, 0),
  (19, 1, .aload_n 0, 0, 0, 0, 0),
  (20, 3, .getfield 7, 6, 0, 655, 0),
  (23, 2, .bipush 56, 0, 0, 0, 56),
  (25, 1, .iload_n 1, 0, 0, 0, 0),
  (26, 1, .iadd, 0, 0, 0, 0),
  (27, 1, .iaload, 0, 0, 0, 0),
  (28, 1, .istore_n 3, 0, 0, 0, 0),
  (29, 1, .iload_n 2, 0, 0, 0, 0),
  (30, 3, .ifCond .ne 14, 44, 0, 0, 0),
  (33, 1, .aload_n 0, 0, 0, 0, 0),
  (34, 3, .getfield 7, 6, 0, 655, 0),
  (37, 1, .iconst 5, 0, 0, 0, 5),
  (38, 1, .iload_n 1, 0, 0, 0, 0),
  (39, 1, .iadd, 0, 0, 0, 0),
  (40, 1, .iaload, 0, 0, 0, 0),
  (41, 3, .goto 39, 80, 0, 0, 0),
  (44, 1, .iload_n 2, 0, 0, 0, 0),
  (45, 1, .iconst 1, 0, 0, 0, 1),
  (46, 3, .if_icmp .ne 7, 53, 0, 0, 0),
  (49, 1, .iload_n 3, 0, 0, 0, 0),
  (50, 3, .goto 30, 80, 0, 0, 0),
  (53, 1, .iload_n 2, 0, 0, 0, 0),
  (54, 1, .iconst 2, 0, 0, 0, 2),
  (55, 3, .if_icmp .ne 20, 75, 0, 0, 0),
  (58, 1, .aload_n 0, 0, 0, 0, 0),
  (59, 1, .iload_n 1, 0, 0, 0, 0),
  (60, 1, .iload_n 3, 0, 0, 0, 0),
  (61, 3, .invokevirtual 146, 120, 0, 856, 0),
  (64, 3, .ifCond .eq 7, 71, 0, 0, 0),
  (67, 1, .iconst 1, 0, 0, 0, 1),
  (68, 3, .goto 12, 80, 0, 0, 0),
  (71, 1, .iconst 0, 0, 0, 0, 0),
  (72, 3, .goto 8, 80, 0, 0, 0),
  (75, 1, .aload_n 0, 0, 0, 0, 0),
  (76, 1, .iload_n 1, 0, 0, 0, 0),
  (77, 3, .invokevirtual 186, 104, 0, 872, 0),
  (80, 1, .ireturn, 0, 0, 0, 0)]
def mX6_line : Mth := (yX6_line, RX6, cX6_line, 4, (some .int), (3, 0, 0), (869, 870, 37, 871), [], tX6_line, 2)
def tX6_makes : List En := [
  (0, 1, .iconst 0, 0, 0, 0, 0),
  (1, 1, .istore_n 1, 0, 0, 0, 0),
  (2, 1, .aload_n 0, 0, 0, 0, 0),
  (3, 3, .invokevirtual 183, 109, 0, 821, 0),
  (6, 1, .istore_n 2, 0, 0, 0, 0),
  (7, 1, .iconst 0, 0, 0, 0, 0),
  (8, 1, .istore_n 3, 0, 0, 0, 0),
  (9, 1, .iload_n 3, 0, 0, 0, 0),
  (10, 1, .aload_n 0, 0, 0, 0, 0),
  (11, 3, .getfield 7, 6, 0, 655, 0),
  (14, 1, .iconst 4, 0, 0, 0, 4),
  (15, 1, .iaload, 0, 0, 0, 0),
  (16, 3, .if_icmp .ge 39, 55, 0, 0, 0),
  (19, 1, .iload_n 2, 0, 0, 0, 0),
  (20, 3, .ifCond .eq 35, 55, 0, 0, 0),
  (23, 1, .iload_n 1, 0, 0, 0, 0),
  (24, 1, .aload_n 0, 0, 0, 0, 0),
  (25, 3, .getfield 7, 6, 0, 655, 0),
  (28, 2, .bipush 56, 0, 0, 0, 56),
  (30, 1, .iload_n 3, 0, 0, 0, 0),
  (31, 1, .iadd, 0, 0, 0, 0),
  (32, 1, .iaload, 0, 0, 0, 0),
  (33, 1, .aload_n 0, 0, 0, 0, 0),
  (34, 3, .getfield 41, 6, 20, 675, 0),
  (37, 1, .iload_n 3, 0, 0, 0, 0),
  (38, 1, .iaload, 0, 0, 0, 0),
  (39, 3, .if_icmp .ne 7, 46, 0, 0, 0),
  (42, 1, .iconst 0, 0, 0, 0, 0),
  (43, 3, .goto 4, 47, 0, 0, 0),
  (46, 1, .iconst 1, 0, 0, 0, 1),
  (47, 1, .iadd, 0, 0, 0, 0),
  (48, 1, .istore_n 1, 0, 0, 0, 0),
  (49, 3, .iinc 3 1, 0, 0, 0, 1),
  (52, 3, .goto (-43), 9, 0, 0, 0),
  (55, 1, .iload_n 1, 0, 0, 0, 0),
  (56, 3, .ifCond .ne 6, 62, 0, 0, 0),
  (59, 2, .bipush (-2), 0, 0, 0, (-2)),
  (61, 1, .ireturn, 0, 0, 0, 0),
  (62, 1, .aload_n 0, 0, 0, 0, 0),
  (63, 3, .invokevirtual 126, 129, 0, 785, 0),
  (66, 1, .iconst 0, 0, 0, 0, 0),
  (67, 1, .istore_n 3, 0, 0, 0, 0),
  (68, 1, .iload_n 3, 0, 0, 0, 0),
  (69, 1, .aload_n 0, 0, 0, 0, 0),
  (70, 3, .getfield 7, 6, 0, 655, 0),
  (73, 1, .iconst 4, 0, 0, 0, 4),
  (74, 1, .iaload, 0, 0, 0, 0),
  (75, 3, .if_icmp .ge 24, 99, 0, 0, 0),
  (78, 1, .aload_n 0, 0, 0, 0, 0),
  (79, 3, .getfield 7, 6, 0, 655, 0),
  (82, 2, .bipush 56, 0, 0, 0, 56),
  (84, 1, .iload_n 3, 0, 0, 0, 0),
  (85, 1, .iadd, 0, 0, 0, 0),
  (86, 1, .aload_n 0, 0, 0, 0, 0),
  (87, 3, .getfield 41, 6, 20, 675, 0),
  (90, 1, .iload_n 3, 0, 0, 0, 0),
  (91, 1, .iaload, 0, 0, 0, 0),
  (92, 1, .iastore, 0, 0, 0, 0),
  (93, 3, .iinc 3 1, 0, 0, 0, 1),
  (96, 3, .goto (-28), 68, 0, 0, 0),
  (99, 1, .iload_n 1, 0, 0, 0, 0),
  (100, 1, .ireturn, 0, 0, 0, 0)]
def mX6_makes : Mth := (yX6_makes, RX6, cX6_makes, 4, (some .int), (8, 0, 0), (818, 819, 37, 820), [9, 47, 55, 68], tX6_makes, 0)
def tX6_mayFollow : List En := [
  (0, 1, .iload_n 2, 0, 0, 0, 0),
  (1, 1, .iload_n 3, 0, 0, 0, 0),
  (2, 3, .if_icmp .eq 12, 14, 0, 0, 0),
  (5, 1, .aload_n 0, 0, 0, 0, 0),
  (6, 1, .iload_n 2, 0, 0, 0, 0),
  (7, 1, .iload_n 3, 0, 0, 0, 0),
  (8, 3, .invokevirtual 143, 99, 0, 840, 0),
  (11, 3, .ifCond .eq 27, 38, 0, 0, 0),
  (14, 1, .aload_n 0, 0, 0, 0, 0),
  (15, 1, .iload_n 1, 0, 0, 0, 0),
  (16, 1, .iload_n 2, 0, 0, 0, 0),
  (17, 3, .invokevirtual 146, 120, 0, 856, 0),
  (20, 3, .ifCond .eq 14, 34, 0, 0, 0),
  (23, 1, .aload_n 0, 0, 0, 0, 0),
  (24, 1, .iload_n 1, 0, 0, 0, 0),
  (25, 1, .iconst 1, 0, 0, 0, 1),
  (26, 1, .iadd, 0, 0, 0, 0),
  (27, 1, .iload_n 3, 0, 0, 0, 0),
  (28, 3, .invokevirtual 146, 120, 0, 856, 0),
  (31, 3, .ifCond .ne 7, 38, 0, 0, 0),
  (34, 1, .iconst 1, 0, 0, 0, 1),
  (35, 3, .goto 4, 39, 0, 0, 0),
  (38, 1, .iconst 0, 0, 0, 0, 0),
  (39, 1, .ireturn, 0, 0, 0, 0)]
def mX6_mayFollow : Mth := (yX6_mayFollow, RX6, cX6_mayFollow, 4, (some .boolean), (4, 0, 0), (838, 19, 37, 839), [14], tX6_mayFollow, 3)
def tX6_needed : List En := [
  (0, 1, .iconst 1, 0, 0, 0, 1),
  (1, 1, .aload_n 0, 0, 0, 0, 0),
  (2, 3, .getfield 7, 6, 0, 655, 0),
  (5, 2, .bipush 13, 0, 0, 0, 13),
  (7, 1, .iaload, 0, 0, 0, 0),
  (8, 1, .ishl, 0, 0, 0, 0),
  (9, 1, .iconst 1, 0, 0, 0, 1),
  (10, 1, .isub, 0, 0, 0, 0),
  (11, 1, .istore_n 1, 0, 0, 0, 0),
  (12, 1, .iconst 0, 0, 0, 0, 0),
  (13, 1, .istore_n 2, 0, 0, 0, 0),
  (14, 1, .iconst 0, 0, 0, 0, 0),
  (15, 1, .istore_n 3, 0, 0, 0, 0),
  (16, 1, .iload_n 3, 0, 0, 0, 0),
  (17, 1, .aload_n 0, 0, 0, 0, 0),
  (18, 3, .getfield 7, 6, 0, 655, 0),
  (21, 2, .bipush 13, 0, 0, 0, 13),
  (23, 1, .iaload, 0, 0, 0, 0),
  (24, 3, .if_icmp .ge 41, 65, 0, 0, 0),
  (27, 1, .aload_n 0, 0, 0, 0, 0),
  (28, 1, .iload_n 1, 0, 0, 0, 0),
  (29, 3, .invokevirtual 168, 111, 0, 828, 0),
  (32, 3, .ifCond .eq 33, 65, 0, 0, 0),
  (35, 1, .iload_n 2, 0, 0, 0, 0),
  (36, 1, .aload_n 0, 0, 0, 0, 0),
  (37, 1, .iload_n 1, 0, 0, 0, 0),
  (38, 1, .iconst 1, 0, 0, 0, 1),
  (39, 1, .iload_n 3, 0, 0, 0, 0),
  (40, 1, .ishl, 0, 0, 0, 0),
  (41, 1, .iconst (-1), 0, 0, 0, (-1)),
  (42, 1, .ixor, 0, 0, 0, 0),
  (43, 1, .iand, 0, 0, 0, 0),
  (44, 3, .invokevirtual 168, 111, 0, 828, 0),
  (47, 3, .ifCond .eq 7, 54, 0, 0, 0),
  (50, 1, .iconst 0, 0, 0, 0, 0),
  (51, 3, .goto 6, 57, 0, 0, 0),
  (54, 1, .iconst 1, 0, 0, 0, 1),
  (55, 1, .iload_n 3, 0, 0, 0, 0),
  (56, 1, .ishl, 0, 0, 0, 0),
  (57, 1, .ior, 0, 0, 0, 0),
  (58, 1, .istore_n 2, 0, 0, 0, 0),
  (59, 3, .iinc 3 1, 0, 0, 0, 1),
  (62, 3, .goto (-46), 16, 0, 0, 0),
  (65, 1, .iload_n 2, 0, 0, 0, 0),
  (66, 1, .ireturn, 0, 0, 0, 0)]
def mX6_needed : Mth := (yX6_needed, RX6, cX6_needed, 4, (some .int), (7, 0, 0), (908, 909, 37, 910), [16], tX6_needed, 0)
def tX6_next : List En := [
  (0, 1, .aload_n 0, 0, 0, 0, 0),
  (1, 3, .getfield 66, 6, 8, 663, 0),
  (4, 1, .aload_n 0, 0, 0, 0, 0),
  (5, 3, .getfield 55, 6, 7, 662, 0),
  (8, 3, .if_icmp .ge 30, 38, 0, 0, 0),
  (11, 1, .aload_n 0, 0, 0, 0, 0),
  (12, 3, .getfield 26, 6, 6, 661, 0),
  (15, 1, .aload_n 0, 0, 0, 0, 0),
  (16, 3, .getfield 66, 6, 8, 663, 0),
  (19, 1, .iaload, 0, 0, 0, 0),
  (20, 2, .bipush 32, 0, 0, 0, 32),
  (22, 3, .if_icmp .ne 16, 38, 0, 0, 0),
  (25, 1, .aload_n 0, 0, 0, 0, 0),
  (26, 1, .dup, 0, 0, 0, 0),
  (27, 3, .getfield 66, 6, 8, 663, 0),
  (30, 1, .iconst 1, 0, 0, 0, 1),
  (31, 1, .iadd, 0, 0, 0, 0),
  (32, 3, .putfield 66, 6, 8, 663, 0),
  (35, 3, .goto (-35), 0, 0, 0, 0),
  (38, 1, .aload_n 0, 0, 0, 0, 0),
  (39, 1, .aload_n 0, 0, 0, 0, 0),
  (40, 3, .getfield 66, 6, 8, 663, 0),
  (43, 3, .putfield 69, 6, 10, 665, 0),
  (46, 1, .aload_n 0, 0, 0, 0, 0),
  (47, 3, .getfield 66, 6, 8, 663, 0),
  (50, 1, .aload_n 0, 0, 0, 0, 0),
  (51, 3, .getfield 55, 6, 7, 662, 0),
  (54, 3, .if_icmp .ne 13, 67, 0, 0, 0),
  (57, 1, .aload_n 0, 0, 0, 0, 0),
  (58, 3, .sipush 1000, 0, 0, 0, 1000),
  (61, 3, .putfield 72, 6, 9, 664, 0),
  (64, 3, .goto 184, 248, 0, 0, 0),
  (67, 1, .aload_n 0, 0, 0, 0, 0),
  (68, 1, .aload_n 0, 0, 0, 0, 0),
  (69, 3, .getfield 66, 6, 8, 663, 0),
  (72, 3, .invokevirtual 75, 118, 0, 748, 0),
  (75, 3, .ifCond .eq 92, 167, 0, 0, 0),
  (78, 1, .aload_n 0, 0, 0, 0, 0),
  (79, 1, .aload_n 0, 0, 0, 0, 0),
  (80, 3, .getfield 66, 6, 8, 663, 0),
  (83, 3, .invokevirtual 75, 118, 0, 748, 0),
  (86, 3, .ifCond .eq 16, 102, 0, 0, 0),
  (89, 1, .aload_n 0, 0, 0, 0, 0),
  (90, 1, .dup, 0, 0, 0, 0),
  (91, 3, .getfield 66, 6, 8, 663, 0),
  (94, 1, .iconst 1, 0, 0, 0, 1),
  (95, 1, .iadd, 0, 0, 0, 0),
  (96, 3, .putfield 66, 6, 8, 663, 0),
  (99, 3, .goto (-21), 78, 0, 0, 0),
  (102, 1, .aload_n 0, 0, 0, 0, 0),
  (103, 1, .aload_n 0, 0, 0, 0, 0),
  (104, 3, .getfield 69, 6, 10, 665, 0),
  (107, 1, .aload_n 0, 0, 0, 0, 0),
  (108, 3, .getfield 66, 6, 8, 663, 0),
  (111, 3, .invokevirtual 79, 148, 0, 752, 0),
  (114, 1, .lstore_n 1, 0, 0, 0, 0),
  (115, 1, .aload_n 0, 0, 0, 0, 0),
  (116, 1, .lload_n 1, 0, 0, 0, 0),
  (117, 3, .ldc2_w 83, 21011137936, 0, 758, 0),
  (120, 1, .lcmp, 0, 0, 0, 0),
  (121, 3, .ifCond .ne 9, 130, 0, 0, 0),
  (124, 3, .sipush 1003, 0, 0, 0, 1003),
  (127, 3, .goto 34, 161, 0, 0, 0),
  (130, 1, .lload_n 1, 0, 0, 0, 0),
  (131, 3, .ldc2_w 85, 20101420, 0, 759, 0),
  (134, 1, .lcmp, 0, 0, 0, 0),
  (135, 3, .ifCond .ne 9, 144, 0, 0, 0),
  (138, 3, .sipush 1004, 0, 0, 0, 1004),
  (141, 3, .goto 20, 161, 0, 0, 0),
  (144, 1, .lload_n 1, 0, 0, 0, 0),
  (145, 3, .ldc2_w 87, 670995, 0, 760, 0),
  (148, 1, .lcmp, 0, 0, 0, 0),
  (149, 3, .ifCond .ne 9, 158, 0, 0, 0),
  (152, 3, .sipush 1005, 0, 0, 0, 1005),
  (155, 3, .goto 6, 161, 0, 0, 0),
  (158, 3, .sipush 1001, 0, 0, 0, 1001),
  (161, 3, .putfield 72, 6, 9, 664, 0),
  (164, 3, .goto 84, 248, 0, 0, 0),
  (167, 1, .aload_n 0, 0, 0, 0, 0),
  (168, 1, .aload_n 0, 0, 0, 0, 0),
  (169, 3, .getfield 66, 6, 8, 663, 0),
  (172, 3, .invokevirtual 89, 117, 0, 761, 0),
  (175, 3, .ifCond .eq 37, 212, 0, 0, 0),
  (178, 1, .aload_n 0, 0, 0, 0, 0),
  (179, 1, .aload_n 0, 0, 0, 0, 0),
  (180, 3, .getfield 66, 6, 8, 663, 0),
  (183, 3, .invokevirtual 89, 117, 0, 761, 0),
  (186, 3, .ifCond .eq 16, 202, 0, 0, 0),
  (189, 1, .aload_n 0, 0, 0, 0, 0),
  (190, 1, .dup, 0, 0, 0, 0),
  (191, 3, .getfield 66, 6, 8, 663, 0),
  (194, 1, .iconst 1, 0, 0, 0, 1),
  (195, 1, .iadd, 0, 0, 0, 0),
  (196, 3, .putfield 66, 6, 8, 663, 0),
  (199, 3, .goto (-21), 178, 0, 0, 0),
  (202, 1, .aload_n 0, 0, 0, 0, 0),
  (203, 3, .sipush 1002, 0, 0, 0, 1002),
  (206, 3, .putfield 72, 6, 9, 664, 0),
  (209, 3, .goto 39, 248, 0, 0, 0),
  (212, 1, .aload_n 0, 0, 0, 0, 0),
  (213, 1, .aload_n 0, 0, 0, 0, 0),
  (214, 3, .getfield 26, 6, 6, 661, 0),
  (217, 1, .aload_n 0, 0, 0, 0, 0),
  (218, 3, .getfield 66, 6, 8, 663, 0),
  (221, 1, .iaload, 0, 0, 0, 0),
  (222, 2, .bipush 59, 0, 0, 0, 59),
  (224, 3, .if_icmp .ne 8, 232, 0, 0, 0),
  (227, 2, .bipush 59, 0, 0, 0, 59),
  (229, 3, .goto 6, 235, 0, 0, 0),
  (232, 3, .sipush 1001, 0, 0, 0, 1001),
  (235, 3, .putfield 72, 6, 9, 664, 0),
  (238, 1, .aload_n 0, 0, 0, 0, 0),
  (239, 1, .dup, 0, 0, 0, 0),
  (240, 3, .getfield 66, 6, 8, 663, 0),
  (243, 1, .iconst 1, 0, 0, 0, 1),
  (244, 1, .iadd, 0, 0, 0, 0),
  (245, 3, .putfield 66, 6, 8, 663, 0),
  (248, 1, .return_, 0, 0, 0, 0)]
def mX6_next : Mth := (yX6_next, RX6, cX6_next, 3, none, (2, 0, 0), (746, 2, 37, 747), [0, 38, 78, 161, 178, 248], tX6_next, 0)
def tX6_note : List En := [
  (0, 1, .aload_n 0, 0, 0, 0, 0),
  (1, 3, .getfield 51, 6, 3, 658, 0),
  (4, 2, .bipush 8, 0, 0, 0, 8),
  (6, 3, .if_icmp .ne 43, 49, 0, 0, 0),
  (9, 1, .iconst 0, 0, 0, 0, 0),
  (10, 1, .istore_n 1, 0, 0, 0, 0),
  (11, 1, .iload_n 1, 0, 0, 0, 0),
  (12, 3, .sipush 448, 0, 0, 0, 448),
  (15, 3, .if_icmp .ge 24, 39, 0, 0, 0),
  (18, 1, .aload_n 0, 0, 0, 0, 0),
  (19, 3, .getfield 16, 6, 2, 657, 0),
  (22, 1, .iload_n 1, 0, 0, 0, 0),
  (23, 1, .aload_n 0, 0, 0, 0, 0),
  (24, 3, .getfield 16, 6, 2, 657, 0),
  (27, 1, .iload_n 1, 0, 0, 0, 0),
  (28, 2, .bipush 64, 0, 0, 0, 64),
  (30, 1, .iadd, 0, 0, 0, 0),
  (31, 1, .iaload, 0, 0, 0, 0),
  (32, 1, .iastore, 0, 0, 0, 0),
  (33, 3, .iinc 1 1, 0, 0, 0, 1),
  (36, 3, .goto (-25), 11, 0, 0, 0),
  (39, 1, .aload_n 0, 0, 0, 0, 0),
  (40, 1, .dup, 0, 0, 0, 0),
  (41, 3, .getfield 51, 6, 3, 658, 0),
  (44, 1, .iconst 1, 0, 0, 0, 1),
  (45, 1, .isub, 0, 0, 0, 0),
  (46, 3, .putfield 51, 6, 3, 658, 0),
  (49, 1, .aload_n 0, 0, 0, 0, 0),
  (50, 3, .getfield 7, 6, 0, 655, 0),
  (53, 1, .iconst 0, 0, 0, 0, 0),
  (54, 1, .aload_n 0, 0, 0, 0, 0),
  (55, 3, .getfield 16, 6, 2, 657, 0),
  (58, 2, .bipush 64, 0, 0, 0, 64),
  (60, 1, .aload_n 0, 0, 0, 0, 0),
  (61, 3, .getfield 51, 6, 3, 658, 0),
  (64, 1, .imul, 0, 0, 0, 0),
  (65, 3, .invokestatic 47, 98, 0, 652, 0),
  (68, 1, .aload_n 0, 0, 0, 0, 0),
  (69, 1, .dup, 0, 0, 0, 0),
  (70, 3, .getfield 51, 6, 3, 658, 0),
  (73, 1, .iconst 1, 0, 0, 0, 1),
  (74, 1, .iadd, 0, 0, 0, 0),
  (75, 3, .putfield 51, 6, 3, 658, 0),
  (78, 1, .return_, 0, 0, 0, 0)]
def mX6_note : Mth := (yX6_note, RX6, cX6_note, 2, none, (1, 0, 0), (787, 11, 37, 788), [11, 49], tX6_note, 0)
def tX6_of : List En := [
  (0, 1, .aload_n 0, 0, 0, 0, 0),
  (1, 3, .getfield 7, 6, 0, 655, 0),
  (4, 2, .bipush 14, 0, 0, 0, 14),
  (6, 2, .bipush 7, 0, 0, 0, 7),
  (8, 1, .iload_n 1, 0, 0, 0, 0),
  (9, 1, .imul, 0, 0, 0, 0),
  (10, 1, .iadd, 0, 0, 0, 0),
  (11, 1, .iload_n 2, 0, 0, 0, 0),
  (12, 1, .iadd, 0, 0, 0, 0),
  (13, 1, .iaload, 0, 0, 0, 0),
  (14, 1, .ireturn, 0, 0, 0, 0)]
def mX6_of : Mth := (yX6_of, RX6, cX6_of, 3, (some .int), (0, 0, 0), (807, 15, 37, 808), [], tX6_of, 2)
def tX6_ones : List En := [
  (0, 1, .iconst 0, 0, 0, 0, 0),
  (1, 1, .istore_n 1, 0, 0, 0, 0),
  (2, 1, .iconst 0, 0, 0, 0, 0),
  (3, 1, .istore_n 2, 0, 0, 0, 0),
  (4, 1, .iload_n 2, 0, 0, 0, 0),
  (5, 2, .bipush 6, 0, 0, 0, 6),
  (7, 3, .if_icmp .ge 17, 24, 0, 0, 0),
  (10, 1, .iload_n 1, 0, 0, 0, 0),
  (11, 1, .iload_n 0, 0, 0, 0, 0),
  (12, 1, .iload_n 2, 0, 0, 0, 0),
  (13, 1, .ishr, 0, 0, 0, 0),
  (14, 1, .iconst 1, 0, 0, 0, 1),
  (15, 1, .iand, 0, 0, 0, 0),
  (16, 1, .iadd, 0, 0, 0, 0),
  (17, 1, .istore_n 1, 0, 0, 0, 0),
  (18, 3, .iinc 2 1, 0, 0, 0, 1),
  (21, 3, .goto (-17), 4, 0, 0, 0),
  (24, 1, .iload_n 1, 0, 0, 0, 0),
  (25, 1, .ireturn, 0, 0, 0, 0)]
def mX6_ones : Mth := (yX6_ones, RX6, cX6_ones, 3, (some .int), (0, 0, 0), (826, 0, 37, 827), [4], tX6_ones, 1)
def tX6_player : List En := [
  (0, 1, .iload_n 1, 0, 0, 0, 0),
  (1, 1, .iconst 0, 0, 0, 0, 0),
  (2, 1, .iconst 1, 0, 0, 0, 1),
  (3, 3, .invokestatic 58, 113, 0, 729, 0),
  (6, 3, .ifCond .eq 25, 31, 0, 0, 0),
  (9, 1, .iload_n 2, 0, 0, 0, 0),
  (10, 1, .iconst 0, 0, 0, 0, 0),
  (11, 1, .iconst 1, 0, 0, 0, 1),
  (12, 3, .invokestatic 58, 113, 0, 729, 0),
  (15, 3, .ifCond .eq 16, 31, 0, 0, 0),
  (18, 1, .aload_n 0, 0, 0, 0, 0),
  (19, 3, .getfield 7, 6, 0, 655, 0),
  (22, 1, .iconst 2, 0, 0, 0, 2),
  (23, 1, .iload_n 1, 0, 0, 0, 0),
  (24, 1, .imul, 0, 0, 0, 0),
  (25, 1, .iload_n 2, 0, 0, 0, 0),
  (26, 1, .iadd, 0, 0, 0, 0),
  (27, 1, .iaload, 0, 0, 0, 0),
  (28, 3, .goto 4, 32, 0, 0, 0),
  (31, 1, .iconst (-1), 0, 0, 0, (-1)),
  (32, 1, .ireturn, 0, 0, 0, 0)]
def mX6_player : Mth := (yX6_player, RX6, cX6_player, 3, (some .int), (1, 0, 0), (886, 887, 37, 888), [], tX6_player, 2)
def tX6_puts : List En := [
  (0, 1, .aload_n 0, 0, 0, 0, 0),
  (1, 1, .iload_n 1, 0, 0, 0, 0),
  (2, 3, .invokevirtual 177, 119, 0, 793, 0),
  (5, 3, .ifCond .eq 11, 16, 0, 0, 0),
  (8, 1, .aload_n 0, 0, 0, 0, 0),
  (9, 1, .iload_n 2, 0, 0, 0, 0),
  (10, 3, .invokevirtual 180, 121, 0, 797, 0),
  (13, 3, .ifCond .ne 5, 18, 0, 0, 0),
  (16, 1, .iconst (-1), 0, 0, 0, (-1)),
  (17, 1, .ireturn, 0, 0, 0, 0),
  (18, 1, .aload_n 0, 0, 0, 0, 0),
  (19, 3, .getfield 7, 6, 0, 655, 0),
  (22, 2, .bipush 56, 0, 0, 0, 56),
  (24, 1, .iload_n 1, 0, 0, 0, 0),
  (25, 1, .iadd, 0, 0, 0, 0),
  (26, 1, .iaload, 0, 0, 0, 0),
  (27, 1, .istore_n 3, 0, 0, 0, 0),
  (28, 1, .iload_n 3, 0, 0, 0, 0),
  (29, 1, .iload_n 2, 0, 0, 0, 0),
  (30, 3, .if_icmp .eq 12, 42, 0, 0, 0),
  (33, 1, .aload_n 0, 0, 0, 0, 0),
  (34, 1, .iload_n 2, 0, 0, 0, 0),
  (35, 1, .iload_n 1, 0, 0, 0, 0),
  (36, 3, .invokevirtual 149, 103, 0, 801, 0),
  (39, 3, .ifCond .ne 6, 45, 0, 0, 0),
  (42, 2, .bipush (-2), 0, 0, 0, (-2)),
  (44, 1, .ireturn, 0, 0, 0, 0),
  (45, 1, .aload_n 0, 0, 0, 0, 0),
  (46, 3, .invokevirtual 126, 129, 0, 785, 0),
  (49, 1, .aload_n 0, 0, 0, 0, 0),
  (50, 3, .getfield 7, 6, 0, 655, 0),
  (53, 2, .bipush 56, 0, 0, 0, 56),
  (55, 1, .iload_n 1, 0, 0, 0, 0),
  (56, 1, .iadd, 0, 0, 0, 0),
  (57, 1, .iload_n 2, 0, 0, 0, 0),
  (58, 1, .iastore, 0, 0, 0, 0),
  (59, 1, .iload_n 3, 0, 0, 0, 0),
  (60, 1, .ireturn, 0, 0, 0, 0)]
def mX6_puts : Mth := (yX6_puts, RX6, cX6_puts, 4, (some .int), (2, 0, 0), (790, 791, 37, 792), [], tX6_puts, 2)
def tX6_readLines : List En := [
  (0, 1, .aload_n 0, 0, 0, 0, 0),
  (1, 3, .getfield 107, 6, 15, 670, 0),
  (4, 3, .ifCond .eq 5, 9, 0, 0, 0),
  (7, 1, .iconst 0, 0, 0, 0, 0),
  (8, 1, .ireturn, 0, 0, 0, 0),
  (9, 1, .aload_n 0, 0, 0, 0, 0),
  (10, 1, .iconst 1, 0, 0, 0, 1),
  (11, 3, .putfield 107, 6, 15, 670, 0),
  (14, 1, .aload_n 0, 0, 0, 0, 0),
  (15, 3, .invokevirtual 92, 128, 0, 744, 0),
  (18, 1, .aload_n 0, 0, 0, 0, 0),
  (19, 3, .getfield 66, 6, 8, 663, 0),
  (22, 1, .aload_n 0, 0, 0, 0, 0),
  (23, 3, .getfield 69, 6, 10, 665, 0),
  (26, 1, .isub, 0, 0, 0, 0),
  (27, 1, .istore_n 1, 0, 0, 0, 0),
  (28, 1, .aload_n 0, 0, 0, 0, 0),
  (29, 3, .getfield 72, 6, 9, 664, 0),
  (32, 3, .sipush 1002, 0, 0, 0, 1002),
  (35, 3, .if_icmp .ne 9, 44, 0, 0, 0),
  (38, 1, .iload_n 1, 0, 0, 0, 0),
  (39, 2, .bipush 8, 0, 0, 0, 8),
  (41, 3, .if_icmp .le 5, 46, 0, 0, 0),
  (44, 1, .iconst 0, 0, 0, 0, 0),
  (45, 1, .ireturn, 0, 0, 0, 0),
  (46, 1, .iconst 0, 0, 0, 0, 0),
  (47, 1, .istore_n 2, 0, 0, 0, 0),
  (48, 1, .iload_n 2, 0, 0, 0, 0),
  (49, 1, .iload_n 1, 0, 0, 0, 0),
  (50, 3, .if_icmp .ge 40, 90, 0, 0, 0),
  (53, 1, .aload_n 0, 0, 0, 0, 0),
  (54, 3, .getfield 26, 6, 6, 661, 0),
  (57, 1, .aload_n 0, 0, 0, 0, 0),
  (58, 3, .getfield 69, 6, 10, 665, 0),
  (61, 1, .iload_n 2, 0, 0, 0, 0),
  (62, 1, .iadd, 0, 0, 0, 0),
  (63, 1, .iaload, 0, 0, 0, 0),
  (64, 2, .bipush 48, 0, 0, 0, 48),
  (66, 1, .isub, 0, 0, 0, 0),
  (67, 1, .istore_n 3, 0, 0, 0, 0),
  (68, 1, .iload_n 3, 0, 0, 0, 0),
  (69, 1, .iconst 1, 0, 0, 0, 1),
  (70, 3, .if_icmp .le 5, 75, 0, 0, 0),
  (73, 1, .iconst 0, 0, 0, 0, 0),
  (74, 1, .ireturn, 0, 0, 0, 0),
  (75, 1, .aload_n 0, 0, 0, 0, 0),
  (76, 3, .getfield 13, 6, 1, 656, 0),
  (79, 1, .iconst 5, 0, 0, 0, 5),
  (80, 1, .iload_n 2, 0, 0, 0, 0),
  (81, 1, .iadd, 0, 0, 0, 0),
  (82, 1, .iload_n 3, 0, 0, 0, 0),
  (83, 1, .iastore, 0, 0, 0, 0),
  (84, 3, .iinc 2 1, 0, 0, 0, 1),
  (87, 3, .goto (-39), 48, 0, 0, 0),
  (90, 1, .aload_n 0, 0, 0, 0, 0),
  (91, 3, .getfield 13, 6, 1, 656, 0),
  (94, 1, .iconst 4, 0, 0, 0, 4),
  (95, 1, .iload_n 1, 0, 0, 0, 0),
  (96, 1, .iastore, 0, 0, 0, 0),
  (97, 1, .aload_n 0, 0, 0, 0, 0),
  (98, 3, .invokevirtual 103, 116, 0, 773, 0),
  (101, 1, .ireturn, 0, 0, 0, 0)]
def mX6_readLines : Mth := (yX6_readLines, RX6, cX6_readLines, 4, (some .boolean), (4, 0, 0), (779, 9, 37, 780), [48], tX6_readLines, 0)
def tX6_readPlayers : List En := [
  (0, 1, .aload_n 0, 0, 0, 0, 0),
  (1, 3, .getfield 95, 6, 14, 669, 0),
  (4, 3, .ifCond .eq 5, 9, 0, 0, 0),
  (7, 1, .iconst 0, 0, 0, 0, 0),
  (8, 1, .ireturn, 0, 0, 0, 0),
  (9, 1, .aload_n 0, 0, 0, 0, 0),
  (10, 1, .iconst 1, 0, 0, 0, 1),
  (11, 3, .putfield 95, 6, 14, 669, 0),
  (14, 1, .iconst 0, 0, 0, 0, 0),
  (15, 1, .istore_n 1, 0, 0, 0, 0),
  (16, 1, .iload_n 1, 0, 0, 0, 0),
  (17, 1, .iconst 4, 0, 0, 0, 4),
  (18, 3, .if_icmp .ge 62, 80, 0, 0, 0),
  (21, 1, .aload_n 0, 0, 0, 0, 0),
  (22, 1, .iconst 0, 0, 0, 0, 0),
  (23, 2, .bipush 9, 0, 0, 0, 9),
  (25, 3, .invokevirtual 99, 108, 0, 769, 0),
  (28, 1, .istore_n 2, 0, 0, 0, 0),
  (29, 1, .aload_n 0, 0, 0, 0, 0),
  (30, 3, .getfield 13, 6, 1, 656, 0),
  (33, 1, .iload_n 1, 0, 0, 0, 0),
  (34, 1, .iload_n 2, 0, 0, 0, 0),
  (35, 1, .iastore, 0, 0, 0, 0),
  (36, 1, .iload_n 2, 0, 0, 0, 0),
  (37, 2, .bipush (-9), 0, 0, 0, (-9)),
  (39, 3, .if_icmp .eq 33, 72, 0, 0, 0),
  (42, 1, .iload_n 1, 0, 0, 0, 0),
  (43, 1, .iconst 3, 0, 0, 0, 3),
  (44, 3, .if_icmp .ne 30, 74, 0, 0, 0),
  (47, 1, .aload_n 0, 0, 0, 0, 0),
  (48, 3, .getfield 13, 6, 1, 656, 0),
  (51, 1, .iconst 0, 0, 0, 0, 0),
  (52, 1, .iaload, 0, 0, 0, 0),
  (53, 1, .aload_n 0, 0, 0, 0, 0),
  (54, 3, .getfield 13, 6, 1, 656, 0),
  (57, 1, .iconst 2, 0, 0, 0, 2),
  (58, 1, .iaload, 0, 0, 0, 0),
  (59, 3, .if_icmp .ne 15, 74, 0, 0, 0),
  (62, 1, .aload_n 0, 0, 0, 0, 0),
  (63, 3, .getfield 13, 6, 1, 656, 0),
  (66, 1, .iconst 1, 0, 0, 0, 1),
  (67, 1, .iaload, 0, 0, 0, 0),
  (68, 1, .iload_n 2, 0, 0, 0, 0),
  (69, 3, .if_icmp .ne 5, 74, 0, 0, 0),
  (72, 1, .iconst 0, 0, 0, 0, 0),
  (73, 1, .ireturn, 0, 0, 0, 0),
  (74, 3, .iinc 1 1, 0, 0, 0, 1),
  (77, 3, .goto (-61), 16, 0, 0, 0),
  (80, 1, .aload_n 0, 0, 0, 0, 0),
  (81, 3, .invokevirtual 103, 116, 0, 773, 0),
  (84, 1, .ireturn, 0, 0, 0, 0)]
def mX6_readPlayers : Mth := (yX6_readPlayers, RX6, cX6_readPlayers, 3, (some .boolean), (4, 0, 0), (767, 6, 37, 768), [16], tX6_readPlayers, 0)
def tX6_readShot : List En := [
  (0, 1, .aload_n 0, 0, 0, 0, 0),
  (1, 3, .getfield 13, 6, 1, 656, 0),
  (4, 2, .bipush 13, 0, 0, 0, 13),
  (6, 1, .iaload, 0, 0, 0, 0),
  (7, 2, .bipush 6, 0, 0, 0, 6),
  (9, 3, .if_icmp .ne 5, 14, 0, 0, 0),
  (12, 1, .iconst 0, 0, 0, 0, 0),
  (13, 1, .ireturn, 0, 0, 0, 0),
  (14, 2, .bipush 14, 0, 0, 0, 14),
  (16, 2, .bipush 7, 0, 0, 0, 7),
  (18, 1, .aload_n 0, 0, 0, 0, 0),
  (19, 3, .getfield 13, 6, 1, 656, 0),
  (22, 2, .bipush 13, 0, 0, 0, 13),
  (24, 1, .iaload, 0, 0, 0, 0),
  (25, 1, .imul, 0, 0, 0, 0),
  (26, 1, .iadd, 0, 0, 0, 0),
  (27, 1, .istore_n 1, 0, 0, 0, 0),
  (28, 1, .iconst 0, 0, 0, 0, 0),
  (29, 1, .istore_n 2, 0, 0, 0, 0),
  (30, 1, .iload_n 2, 0, 0, 0, 0),
  (31, 2, .bipush 7, 0, 0, 0, 7),
  (33, 3, .if_icmp .ge 107, 140, 0, 0, 0),
  (36, 1, .iload_n 2, 0, 0, 0, 0),
  (37, 1, .iconst 3, 0, 0, 0, 3),
  (38, 3, .if_icmp .eq 9, 47, 0, 0, 0),
  (41, 1, .iload_n 2, 0, 0, 0, 0),
  (42, 2, .bipush 6, 0, 0, 0, 6),
  (44, 3, .if_icmp .ne 7, 51, 0, 0, 0),
  (47, 1, .iconst 1, 0, 0, 0, 1),
  (48, 3, .goto 20, 68, 0, 0, 0),
  (51, 1, .iload_n 2, 0, 0, 0, 0),
  (52, 1, .iconst 5, 0, 0, 0, 5),
  (53, 3, .if_icmp .ne 14, 67, 0, 0, 0),
  (56, 1, .aload_n 0, 0, 0, 0, 0),
  (57, 3, .getfield 13, 6, 1, 656, 0),
  (60, 1, .iload_n 1, 0, 0, 0, 0),
  (61, 1, .iconst 4, 0, 0, 0, 4),
  (62, 1, .iadd, 0, 0, 0, 0),
  (63, 1, .iaload, 0, 0, 0, 0),
  (64, 3, .goto 4, 68, 0, 0, 0),
  (67, 1, .iconst 0, 0, 0, 0, 0),
  (68, 1, .istore_n 3, 0, 0, 0, 0),
  (69, 1, .iload_n 2, 0, 0, 0, 0),
  (70, 1, .iconst 2, 0, 0, 0, 2),
  (71, 3, .if_icmp .ne 7, 78, 0, 0, 0),
  (74, 1, .iconst 2, 0, 0, 0, 2),
  (75, 3, .goto 29, 104, 0, 0, 0),
  (78, 1, .iload_n 2, 0, 0, 0, 0),
  (79, 1, .iconst 3, 0, 0, 0, 3),
  (80, 3, .if_icmp .ne 7, 87, 0, 0, 0),
  (83, 1, .iconst 5, 0, 0, 0, 5),
  (84, 3, .goto 20, 104, 0, 0, 0),
  (87, 1, .iload_n 2, 0, 0, 0, 0),
  (88, 1, .iconst 4, 0, 0, 0, 4),
  (89, 3, .if_icmp .eq 8, 97, 0, 0, 0),
  (92, 1, .iload_n 2, 0, 0, 0, 0),
  (93, 1, .iconst 5, 0, 0, 0, 5),
  (94, 3, .if_icmp .ne 8, 102, 0, 0, 0),
  (97, 2, .bipush 7, 0, 0, 0, 7),
  (99, 3, .goto 5, 104, 0, 0, 0),
  (102, 2, .bipush 9, 0, 0, 0, 9),
  (104, 2, .istore 4, 0, 0, 0, 0),
  (106, 1, .aload_n 0, 0, 0, 0, 0),
  (107, 1, .iload_n 3, 0, 0, 0, 0),
  (108, 2, .iload 4, 0, 0, 0, 0),
  (110, 3, .invokevirtual 99, 108, 0, 769, 0),
  (113, 2, .istore 5, 0, 0, 0, 0),
  (115, 2, .iload 5, 0, 0, 0, 0),
  (117, 2, .bipush (-9), 0, 0, 0, (-9)),
  (119, 3, .if_icmp .ne 5, 124, 0, 0, 0),
  (122, 1, .iconst 0, 0, 0, 0, 0),
  (123, 1, .ireturn, 0, 0, 0, 0),
  (124, 1, .aload_n 0, 0, 0, 0, 0),
  (125, 3, .getfield 13, 6, 1, 656, 0),
  (128, 1, .iload_n 1, 0, 0, 0, 0),
  (129, 1, .iload_n 2, 0, 0, 0, 0),
  (130, 1, .iadd, 0, 0, 0, 0),
  (131, 2, .iload 5, 0, 0, 0, 0),
  (133, 1, .iastore, 0, 0, 0, 0),
  (134, 3, .iinc 2 1, 0, 0, 0, 1),
  (137, 3, .goto (-107), 30, 0, 0, 0),
  (140, 1, .aload_n 0, 0, 0, 0, 0),
  (141, 3, .getfield 13, 6, 1, 656, 0),
  (144, 2, .bipush 13, 0, 0, 0, 13),
  (146, 1, .dup2, 0, 0, 0, 0),
  (147, 1, .iaload, 0, 0, 0, 0),
  (148, 1, .iconst 1, 0, 0, 0, 1),
  (149, 1, .iadd, 0, 0, 0, 0),
  (150, 1, .iastore, 0, 0, 0, 0),
  (151, 1, .aload_n 0, 0, 0, 0, 0),
  (152, 3, .invokevirtual 103, 116, 0, 773, 0),
  (155, 1, .ireturn, 0, 0, 0, 0)]
def mX6_readShot : Mth := (yX6_readShot, RX6, cX6_readShot, 6, (some .boolean), (4, 0, 0), (783, 10, 37, 784), [30, 68, 104], tX6_readShot, 0)
def tX6_readText : List En := [
  (0, 1, .aload_n 0, 0, 0, 0, 0),
  (1, 3, .invokevirtual 44, 96, 0, 648, 0),
  (4, 1, .aload_n 0, 0, 0, 0, 0),
  (5, 1, .iconst 0, 0, 0, 0, 0),
  (6, 3, .putfield 95, 6, 14, 669, 0),
  (9, 1, .aload_n 0, 0, 0, 0, 0),
  (10, 1, .iconst 0, 0, 0, 0, 0),
  (11, 3, .putfield 107, 6, 15, 670, 0),
  (14, 1, .aload_n 0, 0, 0, 0, 0),
  (15, 1, .iconst 0, 0, 0, 0, 0),
  (16, 3, .putfield 110, 6, 16, 671, 0),
  (19, 1, .aload_n 0, 0, 0, 0, 0),
  (20, 1, .iconst 0, 0, 0, 0, 0),
  (21, 3, .putfield 66, 6, 8, 663, 0),
  (24, 1, .aload_n 0, 0, 0, 0, 0),
  (25, 3, .invokevirtual 92, 128, 0, 744, 0),
  (28, 1, .aload_n 0, 0, 0, 0, 0),
  (29, 3, .getfield 72, 6, 9, 664, 0),
  (32, 3, .sipush 1000, 0, 0, 0, 1000),
  (35, 3, .if_icmp .eq 86, 121, 0, 0, 0),
  (38, 1, .aload_n 0, 0, 0, 0, 0),
  (39, 3, .getfield 72, 6, 9, 664, 0),
  (42, 3, .sipush 1003, 0, 0, 0, 1003),
  (45, 3, .if_icmp .ne 10, 55, 0, 0, 0),
  (48, 1, .aload_n 0, 0, 0, 0, 0),
  (49, 3, .invokevirtual 113, 135, 0, 765, 0),
  (52, 3, .goto 42, 94, 0, 0, 0),
  (55, 1, .aload_n 0, 0, 0, 0, 0),
  (56, 3, .getfield 72, 6, 9, 664, 0),
  (59, 3, .sipush 1004, 0, 0, 0, 1004),
  (62, 3, .if_icmp .ne 10, 72, 0, 0, 0),
  (65, 1, .aload_n 0, 0, 0, 0, 0),
  (66, 3, .invokevirtual 116, 134, 0, 777, 0),
  (69, 3, .goto 25, 94, 0, 0, 0),
  (72, 1, .aload_n 0, 0, 0, 0, 0),
  (73, 3, .getfield 72, 6, 9, 664, 0),
  (76, 3, .sipush 1005, 0, 0, 0, 1005),
  (79, 3, .if_icmp .ne 14, 93, 0, 0, 0),
  (82, 1, .aload_n 0, 0, 0, 0, 0),
  (83, 3, .invokevirtual 119, 136, 0, 781, 0),
  (86, 3, .ifCond .eq 7, 93, 0, 0, 0),
  (89, 1, .iconst 1, 0, 0, 0, 1),
  (90, 3, .goto 4, 94, 0, 0, 0),
  (93, 1, .iconst 0, 0, 0, 0, 0),
  (94, 1, .istore_n 1, 0, 0, 0, 0),
  (95, 1, .iload_n 1, 0, 0, 0, 0),
  (96, 3, .ifCond .ne 8, 104, 0, 0, 0),
  (99, 1, .aload_n 0, 0, 0, 0, 0),
  (100, 3, .getfield 69, 6, 10, 665, 0),
  (103, 1, .ireturn, 0, 0, 0, 0),
  (104, 1, .aload_n 0, 0, 0, 0, 0),
  (105, 1, .dup, 0, 0, 0, 0),
  (106, 3, .getfield 110, 6, 16, 671, 0),
  (109, 1, .iconst 1, 0, 0, 0, 1),
  (110, 1, .iadd, 0, 0, 0, 0),
  (111, 3, .putfield 110, 6, 16, 671, 0),
  (114, 1, .aload_n 0, 0, 0, 0, 0),
  (115, 3, .invokevirtual 92, 128, 0, 744, 0),
  (118, 3, .goto (-90), 28, 0, 0, 0),
  (121, 2, .bipush (-9), 0, 0, 0, (-9)),
  (123, 1, .ireturn, 0, 0, 0, 0)]
def mX6_readText : Mth := (yX6_readText, RX6, cX6_readText, 2, (some .int), (5, 0, 0), (742, 1, 37, 743), [28, 94], tX6_readText, 0)
def tX6_sees : List En := [
  (0, 1, .iload_n 1, 0, 0, 0, 0),
  (1, 1, .iconst 0, 0, 0, 0, 0),
  (2, 1, .iconst 2, 0, 0, 0, 2),
  (3, 3, .invokestatic 58, 113, 0, 729, 0),
  (6, 3, .ifCond .eq 12, 18, 0, 0, 0),
  (9, 1, .iload_n 2, 0, 0, 0, 0),
  (10, 1, .iconst (-1), 0, 0, 0, (-1)),
  (11, 1, .iconst 5, 0, 0, 0, 5),
  (12, 3, .invokestatic 58, 113, 0, 729, 0),
  (15, 3, .ifCond .ne 5, 20, 0, 0, 0),
  (18, 1, .iconst (-1), 0, 0, 0, (-1)),
  (19, 1, .ireturn, 0, 0, 0, 0),
  (20, 1, .aload_n 0, 0, 0, 0, 0),
  (21, 3, .getfield 199, 6, 13, 668, 0),
  (24, 2, .bipush 6, 0, 0, 0, 6),
  (26, 3, .if_icmp .ne 6, 32, 0, 0, 0),
  (29, 2, .bipush (-3), 0, 0, 0, (-3)),
  (31, 1, .ireturn, 0, 0, 0, 0),
  (32, 1, .aload_n 0, 0, 0, 0, 0),
  (33, 3, .getfield 29, 6, 11, 666, 0),
  (36, 1, .aload_n 0, 0, 0, 0, 0),
  (37, 3, .getfield 199, 6, 13, 668, 0),
  (40, 1, .iload_n 1, 0, 0, 0, 0),
  (41, 1, .iastore, 0, 0, 0, 0),
  (42, 1, .aload_n 0, 0, 0, 0, 0),
  (43, 3, .getfield 32, 6, 12, 667, 0),
  (46, 1, .aload_n 0, 0, 0, 0, 0),
  (47, 3, .getfield 199, 6, 13, 668, 0),
  (50, 1, .iload_n 2, 0, 0, 0, 0),
  (51, 1, .iastore, 0, 0, 0, 0),
  (52, 1, .aload_n 0, 0, 0, 0, 0),
  (53, 1, .dup, 0, 0, 0, 0),
  (54, 3, .getfield 199, 6, 13, 668, 0),
  (57, 1, .iconst 1, 0, 0, 0, 1),
  (58, 1, .iadd, 0, 0, 0, 0),
  (59, 3, .putfield 199, 6, 13, 668, 0),
  (62, 1, .aload_n 0, 0, 0, 0, 0),
  (63, 3, .getfield 199, 6, 13, 668, 0),
  (66, 1, .ireturn, 0, 0, 0, 0)]
def mX6_sees : Mth := (yX6_sees, RX6, cX6_sees, 3, (some .int), (1, 0, 0), (912, 913, 37, 914), [], tX6_sees, 2)
def tX6_shot : List En := [
  (0, 1, .aload_n 0, 0, 0, 0, 0),
  (1, 1, .iload_n 1, 0, 0, 0, 0),
  (2, 3, .invokevirtual 180, 121, 0, 797, 0),
  (5, 3, .ifCond .eq 13, 18, 0, 0, 0),
  (8, 1, .iload_n 2, 0, 0, 0, 0),
  (9, 1, .iconst 0, 0, 0, 0, 0),
  (10, 2, .bipush 10, 0, 0, 0, 10),
  (12, 3, .invokestatic 58, 113, 0, 729, 0),
  (15, 3, .ifCond .ne 6, 21, 0, 0, 0),
  (18, 2, .ldc 189, 0, 0, 880, (-1000000)),
  (20, 1, .ireturn, 0, 0, 0, 0),
  (21, 1, .iload_n 2, 0, 0, 0, 0),
  (22, 2, .bipush 7, 0, 0, 0, 7),
  (24, 3, .if_icmp .ge 12, 36, 0, 0, 0),
  (27, 1, .aload_n 0, 0, 0, 0, 0),
  (28, 1, .iload_n 1, 0, 0, 0, 0),
  (29, 1, .iload_n 2, 0, 0, 0, 0),
  (30, 3, .invokevirtual 129, 130, 0, 805, 0),
  (33, 3, .goto 40, 73, 0, 0, 0),
  (36, 1, .iload_n 2, 0, 0, 0, 0),
  (37, 2, .bipush 7, 0, 0, 0, 7),
  (39, 3, .if_icmp .ne 11, 50, 0, 0, 0),
  (42, 1, .aload_n 0, 0, 0, 0, 0),
  (43, 1, .iload_n 1, 0, 0, 0, 0),
  (44, 3, .invokevirtual 139, 140, 0, 852, 0),
  (47, 3, .goto 26, 73, 0, 0, 0),
  (50, 1, .iload_n 2, 0, 0, 0, 0),
  (51, 2, .bipush 10, 0, 0, 0, 10),
  (53, 3, .if_icmp .ge 15, 68, 0, 0, 0),
  (56, 1, .aload_n 0, 0, 0, 0, 0),
  (57, 1, .iload_n 1, 0, 0, 0, 0),
  (58, 1, .iload_n 2, 0, 0, 0, 0),
  (59, 2, .bipush 8, 0, 0, 0, 8),
  (61, 1, .isub, 0, 0, 0, 0),
  (62, 3, .invokevirtual 132, 146, 0, 848, 0),
  (65, 3, .goto 8, 73, 0, 0, 0),
  (68, 1, .aload_n 0, 0, 0, 0, 0),
  (69, 1, .iload_n 1, 0, 0, 0, 0),
  (70, 3, .invokevirtual 190, 105, 0, 881, 0),
  (73, 1, .ireturn, 0, 0, 0, 0)]
def mX6_shot : Mth := (yX6_shot, RX6, cX6_shot, 3, (some .int), (5, 0, 0), (877, 878, 37, 879), [], tX6_shot, 2)
def tX6_sideOf : List En := [
  (0, 1, .aload_n 0, 0, 0, 0, 0),
  (1, 3, .getfield 7, 6, 0, 655, 0),
  (4, 1, .iconst 2, 0, 0, 0, 2),
  (5, 1, .iaload, 0, 0, 0, 0),
  (6, 1, .aload_n 0, 0, 0, 0, 0),
  (7, 3, .getfield 7, 6, 0, 655, 0),
  (10, 1, .iconst 0, 0, 0, 0, 0),
  (11, 1, .iaload, 0, 0, 0, 0),
  (12, 1, .isub, 0, 0, 0, 0),
  (13, 1, .istore_n 2, 0, 0, 0, 0),
  (14, 1, .aload_n 0, 0, 0, 0, 0),
  (15, 3, .getfield 7, 6, 0, 655, 0),
  (18, 1, .iconst 3, 0, 0, 0, 3),
  (19, 1, .iaload, 0, 0, 0, 0),
  (20, 1, .aload_n 0, 0, 0, 0, 0),
  (21, 3, .getfield 7, 6, 0, 655, 0),
  (24, 1, .iconst 1, 0, 0, 0, 1),
  (25, 1, .iaload, 0, 0, 0, 0),
  (26, 1, .isub, 0, 0, 0, 0),
  (27, 1, .istore_n 3, 0, 0, 0, 0),
  (28, 1, .aload_n 0, 0, 0, 0, 0),
  (29, 1, .iload_n 1, 0, 0, 0, 0),
  (30, 1, .iconst 0, 0, 0, 0, 0),
  (31, 3, .invokevirtual 129, 130, 0, 805, 0),
  (34, 1, .aload_n 0, 0, 0, 0, 0),
  (35, 3, .getfield 7, 6, 0, 655, 0),
  (38, 1, .iconst 0, 0, 0, 0, 0),
  (39, 1, .iaload, 0, 0, 0, 0),
  (40, 1, .isub, 0, 0, 0, 0),
  (41, 2, .istore 4, 0, 0, 0, 0),
  (43, 1, .aload_n 0, 0, 0, 0, 0),
  (44, 1, .iload_n 1, 0, 0, 0, 0),
  (45, 1, .iconst 1, 0, 0, 0, 1),
  (46, 3, .invokevirtual 129, 130, 0, 805, 0),
  (49, 1, .aload_n 0, 0, 0, 0, 0),
  (50, 3, .getfield 7, 6, 0, 655, 0),
  (53, 1, .iconst 1, 0, 0, 0, 1),
  (54, 1, .iaload, 0, 0, 0, 0),
  (55, 1, .isub, 0, 0, 0, 0),
  (56, 2, .istore 5, 0, 0, 0, 0),
  (58, 1, .iload_n 2, 0, 0, 0, 0),
  (59, 2, .iload 5, 0, 0, 0, 0),
  (61, 1, .imul, 0, 0, 0, 0),
  (62, 1, .iload_n 3, 0, 0, 0, 0),
  (63, 2, .iload 4, 0, 0, 0, 0),
  (65, 1, .imul, 0, 0, 0, 0),
  (66, 3, .if_icmp .le 7, 73, 0, 0, 0),
  (69, 1, .iconst 1, 0, 0, 0, 1),
  (70, 3, .goto 19, 89, 0, 0, 0),
  (73, 1, .iload_n 2, 0, 0, 0, 0),
  (74, 2, .iload 5, 0, 0, 0, 0),
  (76, 1, .imul, 0, 0, 0, 0),
  (77, 1, .iload_n 3, 0, 0, 0, 0),
  (78, 2, .iload 4, 0, 0, 0, 0),
  (80, 1, .imul, 0, 0, 0, 0),
  (81, 3, .if_icmp .ge 7, 88, 0, 0, 0),
  (84, 1, .iconst (-1), 0, 0, 0, (-1)),
  (85, 3, .goto 4, 89, 0, 0, 0),
  (88, 1, .iconst 0, 0, 0, 0, 0),
  (89, 1, .ireturn, 0, 0, 0, 0)]
def mX6_sideOf : Mth := (yX6_sideOf, RX6, cX6_sideOf, 6, (some .int), (1, 0, 0), (854, 23, 37, 855), [], tX6_sideOf, 1)
def tX6_strikes : List En := [
  (0, 1, .aload_n 0, 0, 0, 0, 0),
  (1, 1, .iload_n 1, 0, 0, 0, 0),
  (2, 3, .invokevirtual 180, 121, 0, 797, 0),
  (5, 3, .ifCond .ne 5, 10, 0, 0, 0),
  (8, 1, .iconst (-1), 0, 0, 0, (-1)),
  (9, 1, .ireturn, 0, 0, 0, 0),
  (10, 1, .aload_n 0, 0, 0, 0, 0),
  (11, 3, .invokevirtual 126, 129, 0, 785, 0),
  (14, 2, .bipush 14, 0, 0, 0, 14),
  (16, 2, .bipush 7, 0, 0, 0, 7),
  (18, 1, .iload_n 1, 0, 0, 0, 0),
  (19, 1, .imul, 0, 0, 0, 0),
  (20, 1, .iadd, 0, 0, 0, 0),
  (21, 1, .istore_n 2, 0, 0, 0, 0),
  (22, 1, .iload_n 2, 0, 0, 0, 0),
  (23, 2, .bipush 7, 0, 0, 0, 7),
  (25, 1, .iadd, 0, 0, 0, 0),
  (26, 2, .bipush 56, 0, 0, 0, 56),
  (28, 3, .if_icmp .ge 24, 52, 0, 0, 0),
  (31, 1, .aload_n 0, 0, 0, 0, 0),
  (32, 3, .getfield 7, 6, 0, 655, 0),
  (35, 1, .iload_n 2, 0, 0, 0, 0),
  (36, 1, .aload_n 0, 0, 0, 0, 0),
  (37, 3, .getfield 7, 6, 0, 655, 0),
  (40, 1, .iload_n 2, 0, 0, 0, 0),
  (41, 2, .bipush 7, 0, 0, 0, 7),
  (43, 1, .iadd, 0, 0, 0, 0),
  (44, 1, .iaload, 0, 0, 0, 0),
  (45, 1, .iastore, 0, 0, 0, 0),
  (46, 3, .iinc 2 1, 0, 0, 0, 1),
  (49, 3, .goto (-27), 22, 0, 0, 0),
  (52, 1, .aload_n 0, 0, 0, 0, 0),
  (53, 3, .getfield 7, 6, 0, 655, 0),
  (56, 2, .bipush 13, 0, 0, 0, 13),
  (58, 1, .dup2, 0, 0, 0, 0),
  (59, 1, .iaload, 0, 0, 0, 0),
  (60, 1, .iconst 1, 0, 0, 0, 1),
  (61, 1, .isub, 0, 0, 0, 0),
  (62, 1, .iastore, 0, 0, 0, 0),
  (63, 1, .iconst 0, 0, 0, 0, 0),
  (64, 1, .istore_n 2, 0, 0, 0, 0),
  (65, 1, .iconst 0, 0, 0, 0, 0),
  (66, 1, .istore_n 3, 0, 0, 0, 0),
  (67, 1, .iload_n 3, 0, 0, 0, 0),
  (68, 2, .bipush 8, 0, 0, 0, 8),
  (70, 3, .if_icmp .ge 69, 139, 0, 0, 0),
  (73, 1, .aload_n 0, 0, 0, 0, 0),
  (74, 3, .getfield 7, 6, 0, 655, 0),
  (77, 2, .bipush 56, 0, 0, 0, 56),
  (79, 1, .iload_n 3, 0, 0, 0, 0),
  (80, 1, .iadd, 0, 0, 0, 0),
  (81, 1, .iaload, 0, 0, 0, 0),
  (82, 2, .istore 4, 0, 0, 0, 0),
  (84, 1, .iload_n 2, 0, 0, 0, 0),
  (85, 2, .iload 4, 0, 0, 0, 0),
  (87, 1, .iload_n 1, 0, 0, 0, 0),
  (88, 3, .if_icmp .ne 7, 95, 0, 0, 0),
  (91, 1, .iconst 1, 0, 0, 0, 1),
  (92, 3, .goto 4, 96, 0, 0, 0),
  (95, 1, .iconst 0, 0, 0, 0, 0),
  (96, 1, .iadd, 0, 0, 0, 0),
  (97, 1, .istore_n 2, 0, 0, 0, 0),
  (98, 1, .aload_n 0, 0, 0, 0, 0),
  (99, 3, .getfield 7, 6, 0, 655, 0),
  (102, 2, .bipush 56, 0, 0, 0, 56),
  (104, 1, .iload_n 3, 0, 0, 0, 0),
  (105, 1, .iadd, 0, 0, 0, 0),
  (106, 2, .iload 4, 0, 0, 0, 0),
  (108, 1, .iload_n 1, 0, 0, 0, 0),
  (109, 3, .if_icmp .ne 8, 117, 0, 0, 0),
  (112, 2, .bipush (-9), 0, 0, 0, (-9)),
  (114, 3, .goto 18, 132, 0, 0, 0),
  (117, 2, .iload 4, 0, 0, 0, 0),
  (119, 1, .iload_n 1, 0, 0, 0, 0),
  (120, 3, .if_icmp .le 10, 130, 0, 0, 0),
  (123, 2, .iload 4, 0, 0, 0, 0),
  (125, 1, .iconst 1, 0, 0, 0, 1),
  (126, 1, .isub, 0, 0, 0, 0),
  (127, 3, .goto 5, 132, 0, 0, 0),
  (130, 2, .iload 4, 0, 0, 0, 0),
  (132, 1, .iastore, 0, 0, 0, 0),
  (133, 3, .iinc 3 1, 0, 0, 0, 1),
  (136, 3, .goto (-69), 67, 0, 0, 0),
  (139, 1, .iload_n 2, 0, 0, 0, 0),
  (140, 1, .ireturn, 0, 0, 0, 0)]
def mX6_strikes : Mth := (yX6_strikes, RX6, cX6_strikes, 5, (some .int), (2, 0, 0), (814, 815, 37, 816), [22, 67, 96, 132], tX6_strikes, 1)
def tX6_takes : List En := [
  (0, 1, .aload_n 0, 0, 0, 0, 0),
  (1, 1, .iload_n 1, 0, 0, 0, 0),
  (2, 3, .invokevirtual 177, 119, 0, 793, 0),
  (5, 3, .ifCond .ne 5, 10, 0, 0, 0),
  (8, 1, .iconst (-1), 0, 0, 0, (-1)),
  (9, 1, .ireturn, 0, 0, 0, 0),
  (10, 1, .aload_n 0, 0, 0, 0, 0),
  (11, 3, .getfield 7, 6, 0, 655, 0),
  (14, 2, .bipush 56, 0, 0, 0, 56),
  (16, 1, .iload_n 1, 0, 0, 0, 0),
  (17, 1, .iadd, 0, 0, 0, 0),
  (18, 1, .iaload, 0, 0, 0, 0),
  (19, 1, .istore_n 2, 0, 0, 0, 0),
  (20, 1, .iload_n 2, 0, 0, 0, 0),
  (21, 2, .bipush (-9), 0, 0, 0, (-9)),
  (23, 3, .if_icmp .ne 6, 29, 0, 0, 0),
  (26, 2, .bipush (-2), 0, 0, 0, (-2)),
  (28, 1, .ireturn, 0, 0, 0, 0),
  (29, 1, .aload_n 0, 0, 0, 0, 0),
  (30, 3, .invokevirtual 126, 129, 0, 785, 0),
  (33, 1, .aload_n 0, 0, 0, 0, 0),
  (34, 3, .getfield 7, 6, 0, 655, 0),
  (37, 2, .bipush 56, 0, 0, 0, 56),
  (39, 1, .iload_n 1, 0, 0, 0, 0),
  (40, 1, .iadd, 0, 0, 0, 0),
  (41, 2, .bipush (-9), 0, 0, 0, (-9)),
  (43, 1, .iastore, 0, 0, 0, 0),
  (44, 1, .iload_n 2, 0, 0, 0, 0),
  (45, 1, .ireturn, 0, 0, 0, 0)]
def mX6_takes : Mth := (yX6_takes, RX6, cX6_takes, 3, (some .int), (2, 0, 0), (810, 811, 37, 812), [], tX6_takes, 1)
def tX6_tells : List En := [
  (0, 1, .aload_n 0, 0, 0, 0, 0),
  (1, 3, .invokevirtual 122, 137, 0, 740, 0),
  (4, 1, .istore_n 1, 0, 0, 0, 0),
  (5, 1, .iload_n 1, 0, 0, 0, 0),
  (6, 2, .bipush (-9), 0, 0, 0, (-9)),
  (8, 3, .if_icmp .eq 8, 16, 0, 0, 0),
  (11, 2, .bipush (-10), 0, 0, 0, (-10)),
  (13, 1, .iload_n 1, 0, 0, 0, 0),
  (14, 1, .isub, 0, 0, 0, 0),
  (15, 1, .ireturn, 0, 0, 0, 0),
  (16, 1, .aload_n 0, 0, 0, 0, 0),
  (17, 3, .invokevirtual 126, 129, 0, 785, 0),
  (20, 1, .aload_n 0, 0, 0, 0, 0),
  (21, 3, .getfield 13, 6, 1, 656, 0),
  (24, 1, .iconst 0, 0, 0, 0, 0),
  (25, 1, .aload_n 0, 0, 0, 0, 0),
  (26, 3, .getfield 7, 6, 0, 655, 0),
  (29, 1, .iconst 0, 0, 0, 0, 0),
  (30, 3, .invokestatic 47, 98, 0, 652, 0),
  (33, 1, .aload_n 0, 0, 0, 0, 0),
  (34, 1, .iconst 0, 0, 0, 0, 0),
  (35, 3, .putfield 55, 6, 7, 662, 0),
  (38, 1, .aload_n 0, 0, 0, 0, 0),
  (39, 3, .getfield 110, 6, 16, 671, 0),
  (42, 1, .ireturn, 0, 0, 0, 0)]
def mX6_tells : Mth := (yX6_tells, RX6, cX6_tells, 2, (some .int), (6, 0, 0), (737, 738, 37, 739), [], tX6_tells, 0)
def tX6_type : List En := [
  (0, 1, .iload_n 1, 0, 0, 0, 0),
  (1, 1, .iconst 0, 0, 0, 0, 0),
  (2, 3, .sipush 255, 0, 0, 0, 255),
  (5, 3, .invokestatic 58, 113, 0, 729, 0),
  (8, 3, .ifCond .ne 5, 13, 0, 0, 0),
  (11, 1, .iconst (-1), 0, 0, 0, (-1)),
  (12, 1, .ireturn, 0, 0, 0, 0),
  (13, 1, .aload_n 0, 0, 0, 0, 0),
  (14, 3, .getfield 55, 6, 7, 662, 0),
  (17, 3, .sipush 160, 0, 0, 0, 160),
  (20, 3, .if_icmp .ne 6, 26, 0, 0, 0),
  (23, 2, .bipush (-3), 0, 0, 0, (-3)),
  (25, 1, .ireturn, 0, 0, 0, 0),
  (26, 1, .aload_n 0, 0, 0, 0, 0),
  (27, 3, .getfield 26, 6, 6, 661, 0),
  (30, 1, .aload_n 0, 0, 0, 0, 0),
  (31, 3, .getfield 55, 6, 7, 662, 0),
  (34, 1, .iload_n 1, 0, 0, 0, 0),
  (35, 1, .iastore, 0, 0, 0, 0),
  (36, 1, .aload_n 0, 0, 0, 0, 0),
  (37, 1, .dup, 0, 0, 0, 0),
  (38, 3, .getfield 55, 6, 7, 662, 0),
  (41, 1, .iconst 1, 0, 0, 0, 1),
  (42, 1, .iadd, 0, 0, 0, 0),
  (43, 3, .putfield 55, 6, 7, 662, 0),
  (46, 1, .aload_n 0, 0, 0, 0, 0),
  (47, 3, .getfield 55, 6, 7, 662, 0),
  (50, 1, .ireturn, 0, 0, 0, 0)]
def mX6_type : Mth := (yX6_type, RX6, cX6_type, 2, (some .int), (1, 0, 0), (726, 727, 37, 728), [], tX6_type, 1)
def tX6_undo : List En := [
  (0, 1, .aload_n 0, 0, 0, 0, 0),
  (1, 3, .getfield 51, 6, 3, 658, 0),
  (4, 3, .ifCond .ne 6, 10, 0, 0, 0),
  (7, 2, .bipush (-2), 0, 0, 0, (-2)),
  (9, 1, .ireturn, 0, 0, 0, 0),
  (10, 1, .aload_n 0, 0, 0, 0, 0),
  (11, 1, .dup, 0, 0, 0, 0),
  (12, 3, .getfield 51, 6, 3, 658, 0),
  (15, 1, .iconst 1, 0, 0, 0, 1),
  (16, 1, .isub, 0, 0, 0, 0),
  (17, 3, .putfield 51, 6, 3, 658, 0),
  (20, 1, .aload_n 0, 0, 0, 0, 0),
  (21, 3, .getfield 16, 6, 2, 657, 0),
  (24, 2, .bipush 64, 0, 0, 0, 64),
  (26, 1, .aload_n 0, 0, 0, 0, 0),
  (27, 3, .getfield 51, 6, 3, 658, 0),
  (30, 1, .imul, 0, 0, 0, 0),
  (31, 1, .aload_n 0, 0, 0, 0, 0),
  (32, 3, .getfield 7, 6, 0, 655, 0),
  (35, 1, .iconst 0, 0, 0, 0, 0),
  (36, 3, .invokestatic 47, 98, 0, 652, 0),
  (39, 1, .aload_n 0, 0, 0, 0, 0),
  (40, 3, .getfield 51, 6, 3, 658, 0),
  (43, 1, .ireturn, 0, 0, 0, 0)]
def mX6_undo : Mth := (yX6_undo, RX6, cX6_undo, 1, (some .int), (1, 0, 0), (865, 866, 37, 867), [], tX6_undo, 0)
def tX6_wayOf : List En := [
  (0, 1, .iconst 2, 0, 0, 0, 2),
  (1, 1, .aload_n 0, 0, 0, 0, 0),
  (2, 1, .iload_n 1, 0, 0, 0, 0),
  (3, 1, .iload_n 2, 0, 0, 0, 0),
  (4, 3, .invokevirtual 129, 130, 0, 805, 0),
  (7, 1, .imul, 0, 0, 0, 0),
  (8, 1, .aload_n 0, 0, 0, 0, 0),
  (9, 3, .getfield 7, 6, 0, 655, 0),
  (12, 1, .iload_n 2, 0, 0, 0, 0),
  (13, 1, .iaload, 0, 0, 0, 0),
  (14, 1, .isub, 0, 0, 0, 0),
  (15, 1, .aload_n 0, 0, 0, 0, 0),
  (16, 3, .getfield 7, 6, 0, 655, 0),
  (19, 1, .iconst 2, 0, 0, 0, 2),
  (20, 1, .iload_n 2, 0, 0, 0, 0),
  (21, 1, .iadd, 0, 0, 0, 0),
  (22, 1, .iaload, 0, 0, 0, 0),
  (23, 1, .isub, 0, 0, 0, 0),
  (24, 1, .ireturn, 0, 0, 0, 0)]
def mX6_wayOf : Mth := (yX6_wayOf, RX6, cX6_wayOf, 3, (some .int), (1, 0, 0), (850, 22, 37, 851), [], tX6_wayOf, 2)
def tX6_which : List En := [
  (0, 1, .iload_n 1, 0, 0, 0, 0),
  (1, 1, .iconst 0, 0, 0, 0, 0),
  (2, 1, .iconst 1, 0, 0, 0, 1),
  (3, 3, .invokestatic 58, 113, 0, 729, 0),
  (6, 3, .ifCond .ne 5, 11, 0, 0, 0),
  (9, 1, .iconst (-1), 0, 0, 0, (-1)),
  (10, 1, .ireturn, 0, 0, 0, 0),
  (11, 1, .iconst 0, 0, 0, 0, 0),
  (12, 1, .istore_n 2, 0, 0, 0, 0),
  (13, 2, .bipush (-9), 0, 0, 0, (-9)),
  (15, 1, .istore_n 3, 0, 0, 0, 0),
  (16, 1, .aload_n 0, 0, 0, 0, 0),
  (17, 3, .getfield 7, 6, 0, 655, 0),
  (20, 2, .bipush 13, 0, 0, 0, 13),
  (22, 1, .iaload, 0, 0, 0, 0),
  (23, 1, .iconst 1, 0, 0, 0, 1),
  (24, 1, .isub, 0, 0, 0, 0),
  (25, 2, .istore 4, 0, 0, 0, 0),
  (27, 2, .iload 4, 0, 0, 0, 0),
  (29, 3, .ifCond .lt 42, 71, 0, 0, 0),
  (32, 1, .aload_n 0, 0, 0, 0, 0),
  (33, 2, .iload 4, 0, 0, 0, 0),
  (35, 3, .invokevirtual 202, 122, 0, 923, 0),
  (38, 2, .istore 5, 0, 0, 0, 0),
  (40, 1, .iload_n 2, 0, 0, 0, 0),
  (41, 2, .iload 5, 0, 0, 0, 0),
  (43, 3, .ifCond .eq 7, 50, 0, 0, 0),
  (46, 1, .iconst 1, 0, 0, 0, 1),
  (47, 3, .goto 4, 51, 0, 0, 0),
  (50, 1, .iconst 0, 0, 0, 0, 0),
  (51, 1, .iadd, 0, 0, 0, 0),
  (52, 1, .istore_n 2, 0, 0, 0, 0),
  (53, 2, .iload 5, 0, 0, 0, 0),
  (55, 3, .ifCond .eq 8, 63, 0, 0, 0),
  (58, 2, .iload 4, 0, 0, 0, 0),
  (60, 3, .goto 4, 64, 0, 0, 0),
  (63, 1, .iload_n 3, 0, 0, 0, 0),
  (64, 1, .istore_n 3, 0, 0, 0, 0),
  (65, 3, .iinc 4 (-1), 0, 0, 0, (-1)),
  (68, 3, .goto (-41), 27, 0, 0, 0),
  (71, 1, .iload_n 1, 0, 0, 0, 0),
  (72, 3, .ifCond .ne 7, 79, 0, 0, 0),
  (75, 1, .iload_n 2, 0, 0, 0, 0),
  (76, 3, .goto 4, 80, 0, 0, 0),
  (79, 1, .iload_n 3, 0, 0, 0, 0),
  (80, 1, .ireturn, 0, 0, 0, 0)]
def mX6_which : Mth := (yX6_which, RX6, cX6_which, 6, (some .int), (3, 0, 0), (920, 921, 37, 922), [27], tX6_which, 1)
def tX6_wordFrom : List En := [
  (0, 1, .lconst 0, 0, 0, 0, 0),
  (1, 1, .lstore_n 3, 0, 0, 0, 0),
  (2, 1, .iload_n 2, 0, 0, 0, 0),
  (3, 1, .iconst 1, 0, 0, 0, 1),
  (4, 1, .isub, 0, 0, 0, 0),
  (5, 2, .istore 5, 0, 0, 0, 0),
  (7, 2, .iload 5, 0, 0, 0, 0),
  (9, 1, .iload_n 1, 0, 0, 0, 0),
  (10, 3, .if_icmp .lt 38, 48, 0, 0, 0),
  (13, 1, .iload_n 2, 0, 0, 0, 0),
  (14, 1, .iload_n 1, 0, 0, 0, 0),
  (15, 1, .isub, 0, 0, 0, 0),
  (16, 2, .bipush 9, 0, 0, 0, 9),
  (18, 3, .if_icmp .ge 30, 48, 0, 0, 0),
  (21, 3, .ldc2_w 62, 32, 0, 756, 0),
  (24, 1, .lload_n 3, 0, 0, 0, 0),
  (25, 1, .lmul, 0, 0, 0, 0),
  (26, 1, .aload_n 0, 0, 0, 0, 0),
  (27, 3, .getfield 26, 6, 6, 661, 0),
  (30, 2, .iload 5, 0, 0, 0, 0),
  (32, 1, .iaload, 0, 0, 0, 0),
  (33, 1, .i2l, 0, 0, 0, 0),
  (34, 1, .ladd, 0, 0, 0, 0),
  (35, 3, .ldc2_w 64, 97, 0, 757, 0),
  (38, 1, .lsub, 0, 0, 0, 0),
  (39, 1, .lconst 1, 1, 0, 0, 0),
  (40, 1, .ladd, 0, 0, 0, 0),
  (41, 1, .lstore_n 3, 0, 0, 0, 0),
  (42, 3, .iinc 5 (-1), 0, 0, 0, (-1)),
  (45, 3, .goto (-38), 7, 0, 0, 0),
  (48, 1, .lload_n 3, 0, 0, 0, 0),
  (49, 1, .lreturn, 0, 0, 0, 0)]
def mX6_wordFrom : Mth := (yX6_wordFrom, RX6, cX6_wordFrom, 6, (some .long), (0, 0, 0), (754, 4, 37, 755), [7], tX6_wordFrom, 2)
def tL_law : List En := [
  (0, 3, .new 7, 5, 46, 45, 31),
  (3, 1, .dup, 0, 0, 0, 0),
  (4, 3, .invokespecial 9, 79, 0, 47, 0),
  (7, 1, .astore_n 1, 0, 0, 0, 0),
  (8, 3, .new 10, 6, 643, 642, 37),
  (11, 1, .dup, 0, 0, 0, 0),
  (12, 3, .invokespecial 12, 114, 0, 644, 0),
  (15, 1, .astore_n 2, 0, 0, 0, 0),
  (16, 1, .iconst 0, 0, 0, 0, 0),
  (17, 1, .istore_n 3, 0, 0, 0, 0),
  (18, 1, .iload_n 3, 0, 0, 0, 0),
  (19, 1, .aload_n 0, 0, 0, 0, 0),
  (20, 1, .arraylength, 0, 0, 0, 0),
  (21, 1, .iconst 3, 0, 0, 0, 3),
  (22, 1, .isub, 0, 0, 0, 0),
  (23, 3, .if_icmp .gt 588, 611, 0, 0, 0),
  (26, 1, .aload_n 0, 0, 0, 0, 0),
  (27, 1, .iload_n 3, 0, 0, 0, 0),
  (28, 1, .iaload, 0, 0, 0, 0),
  (29, 2, .bipush 31, 0, 0, 0, 31),
  (31, 1, .iand, 0, 0, 0, 0),
  (32, 100, .tableswitch 573 0 20 #[100, 123, 136, 149, 182, 205, 228, 241, 254, 287, 320, 353, 376, 399, 422, 435, 468, 481, 504, 527, 550], 605, 0, 0, 0),
  (132, 1, .aload_n 1, 0, 0, 0, 0),
  (133, 1, .aload_n 0, 0, 0, 0, 0),
  (134, 1, .iload_n 3, 0, 0, 0, 0),
  (135, 1, .iconst 1, 0, 0, 0, 1),
  (136, 1, .iadd, 0, 0, 0, 0),
  (137, 1, .iaload, 0, 0, 0, 0),
  (138, 3, .invokevirtual 13, 91, 0, 234, 0),
  (141, 1, .aload_n 2, 0, 0, 0, 0),
  (142, 1, .aload_n 0, 0, 0, 0, 0),
  (143, 1, .iload_n 3, 0, 0, 0, 0),
  (144, 1, .iconst 1, 0, 0, 0, 1),
  (145, 1, .iadd, 0, 0, 0, 0),
  (146, 1, .iaload, 0, 0, 0, 0),
  (147, 3, .invokevirtual 17, 144, 0, 725, 0),
  (150, 3, .if_icmp .eq 455, 605, 0, 0, 0),
  (153, 1, .iconst 0, 0, 0, 0, 0),
  (154, 1, .ireturn, 0, 0, 0, 0),
  (155, 1, .aload_n 1, 0, 0, 0, 0),
  (156, 3, .invokevirtual 18, 75, 0, 242, 0),
  (159, 1, .aload_n 2, 0, 0, 0, 0),
  (160, 3, .invokevirtual 22, 101, 0, 732, 0),
  (163, 3, .if_icmp .eq 442, 605, 0, 0, 0),
  (166, 1, .iconst 0, 0, 0, 0, 0),
  (167, 1, .ireturn, 0, 0, 0, 0),
  (168, 1, .aload_n 1, 0, 0, 0, 0),
  (169, 3, .invokevirtual 23, 90, 0, 250, 0),
  (172, 1, .aload_n 2, 0, 0, 0, 0),
  (173, 3, .invokevirtual 26, 143, 0, 736, 0),
  (176, 3, .if_icmp .eq 429, 605, 0, 0, 0),
  (179, 1, .iconst 0, 0, 0, 0, 0),
  (180, 1, .ireturn, 0, 0, 0, 0),
  (181, 1, .aload_n 1, 0, 0, 0, 0),
  (182, 1, .aload_n 0, 0, 0, 0, 0),
  (183, 1, .iload_n 3, 0, 0, 0, 0),
  (184, 1, .iconst 1, 0, 0, 0, 1),
  (185, 1, .iadd, 0, 0, 0, 0),
  (186, 1, .iaload, 0, 0, 0, 0),
  (187, 1, .aload_n 0, 0, 0, 0, 0),
  (188, 1, .iload_n 3, 0, 0, 0, 0),
  (189, 1, .iconst 2, 0, 0, 0, 2),
  (190, 1, .iadd, 0, 0, 0, 0),
  (191, 1, .iaload, 0, 0, 0, 0),
  (192, 3, .invokevirtual 27, 85, 0, 366, 0),
  (195, 1, .aload_n 2, 0, 0, 0, 0),
  (196, 1, .aload_n 0, 0, 0, 0, 0),
  (197, 1, .iload_n 3, 0, 0, 0, 0),
  (198, 1, .iconst 1, 0, 0, 0, 1),
  (199, 1, .iadd, 0, 0, 0, 0),
  (200, 1, .iaload, 0, 0, 0, 0),
  (201, 1, .aload_n 0, 0, 0, 0, 0),
  (202, 1, .iload_n 3, 0, 0, 0, 0),
  (203, 1, .iconst 2, 0, 0, 0, 2),
  (204, 1, .iadd, 0, 0, 0, 0),
  (205, 1, .iaload, 0, 0, 0, 0),
  (206, 3, .invokevirtual 31, 133, 0, 789, 0),
  (209, 3, .if_icmp .eq 396, 605, 0, 0, 0),
  (212, 1, .iconst 0, 0, 0, 0, 0),
  (213, 1, .ireturn, 0, 0, 0, 0),
  (214, 1, .aload_n 1, 0, 0, 0, 0),
  (215, 1, .aload_n 0, 0, 0, 0, 0),
  (216, 1, .iload_n 3, 0, 0, 0, 0),
  (217, 1, .iconst 1, 0, 0, 0, 1),
  (218, 1, .iadd, 0, 0, 0, 0),
  (219, 1, .iaload, 0, 0, 0, 0),
  (220, 3, .invokevirtual 32, 89, 0, 386, 0),
  (223, 1, .aload_n 2, 0, 0, 0, 0),
  (224, 1, .aload_n 0, 0, 0, 0, 0),
  (225, 1, .iload_n 3, 0, 0, 0, 0),
  (226, 1, .iconst 1, 0, 0, 0, 1),
  (227, 1, .iadd, 0, 0, 0, 0),
  (228, 1, .iaload, 0, 0, 0, 0),
  (229, 3, .invokevirtual 35, 142, 0, 809, 0),
  (232, 3, .if_icmp .eq 373, 605, 0, 0, 0),
  (235, 1, .iconst 0, 0, 0, 0, 0),
  (236, 1, .ireturn, 0, 0, 0, 0),
  (237, 1, .aload_n 1, 0, 0, 0, 0),
  (238, 1, .aload_n 0, 0, 0, 0, 0),
  (239, 1, .iload_n 3, 0, 0, 0, 0),
  (240, 1, .iconst 1, 0, 0, 0, 1),
  (241, 1, .iadd, 0, 0, 0, 0),
  (242, 1, .iaload, 0, 0, 0, 0),
  (243, 3, .invokevirtual 36, 88, 0, 390, 0),
  (246, 1, .aload_n 2, 0, 0, 0, 0),
  (247, 1, .aload_n 0, 0, 0, 0, 0),
  (248, 1, .iload_n 3, 0, 0, 0, 0),
  (249, 1, .iconst 1, 0, 0, 0, 1),
  (250, 1, .iadd, 0, 0, 0, 0),
  (251, 1, .iaload, 0, 0, 0, 0),
  (252, 3, .invokevirtual 39, 141, 0, 813, 0),
  (255, 3, .if_icmp .eq 350, 605, 0, 0, 0),
  (258, 1, .iconst 0, 0, 0, 0, 0),
  (259, 1, .ireturn, 0, 0, 0, 0),
  (260, 1, .aload_n 1, 0, 0, 0, 0),
  (261, 3, .invokevirtual 40, 82, 0, 402, 0),
  (264, 1, .aload_n 2, 0, 0, 0, 0),
  (265, 3, .invokevirtual 43, 125, 0, 817, 0),
  (268, 3, .if_icmp .eq 337, 605, 0, 0, 0),
  (271, 1, .iconst 0, 0, 0, 0, 0),
  (272, 1, .ireturn, 0, 0, 0, 0),
  (273, 1, .aload_n 1, 0, 0, 0, 0),
  (274, 3, .invokevirtual 44, 92, 0, 506, 0),
  (277, 1, .aload_n 2, 0, 0, 0, 0),
  (278, 3, .invokevirtual 47, 145, 0, 864, 0),
  (281, 3, .if_icmp .eq 324, 605, 0, 0, 0),
  (284, 1, .iconst 0, 0, 0, 0, 0),
  (285, 1, .ireturn, 0, 0, 0, 0),
  (286, 1, .aload_n 1, 0, 0, 0, 0),
  (287, 1, .aload_n 0, 0, 0, 0, 0),
  (288, 1, .iload_n 3, 0, 0, 0, 0),
  (289, 1, .iconst 1, 0, 0, 0, 1),
  (290, 1, .iadd, 0, 0, 0, 0),
  (291, 1, .iaload, 0, 0, 0, 0),
  (292, 1, .aload_n 0, 0, 0, 0, 0),
  (293, 1, .iload_n 3, 0, 0, 0, 0),
  (294, 1, .iconst 2, 0, 0, 0, 2),
  (295, 1, .iadd, 0, 0, 0, 0),
  (296, 1, .iaload, 0, 0, 0, 0),
  (297, 3, .invokevirtual 48, 81, 0, 514, 0),
  (300, 1, .aload_n 2, 0, 0, 0, 0),
  (301, 1, .aload_n 0, 0, 0, 0, 0),
  (302, 1, .iload_n 3, 0, 0, 0, 0),
  (303, 1, .iconst 1, 0, 0, 0, 1),
  (304, 1, .iadd, 0, 0, 0, 0),
  (305, 1, .iaload, 0, 0, 0, 0),
  (306, 1, .aload_n 0, 0, 0, 0, 0),
  (307, 1, .iload_n 3, 0, 0, 0, 0),
  (308, 1, .iconst 2, 0, 0, 0, 2),
  (309, 1, .iadd, 0, 0, 0, 0),
  (310, 1, .iaload, 0, 0, 0, 0),
  (311, 3, .invokevirtual 51, 124, 0, 868, 0),
  (314, 3, .if_icmp .eq 291, 605, 0, 0, 0),
  (317, 1, .iconst 0, 0, 0, 0, 0),
  (318, 1, .ireturn, 0, 0, 0, 0),
  (319, 1, .aload_n 1, 0, 0, 0, 0),
  (320, 1, .aload_n 0, 0, 0, 0, 0),
  (321, 1, .iload_n 3, 0, 0, 0, 0),
  (322, 1, .iconst 1, 0, 0, 0, 1),
  (323, 1, .iadd, 0, 0, 0, 0),
  (324, 1, .iaload, 0, 0, 0, 0),
  (325, 1, .aload_n 0, 0, 0, 0, 0),
  (326, 1, .iload_n 3, 0, 0, 0, 0),
  (327, 1, .iconst 2, 0, 0, 0, 2),
  (328, 1, .iadd, 0, 0, 0, 0),
  (329, 1, .iaload, 0, 0, 0, 0),
  (330, 3, .invokevirtual 52, 87, 0, 520, 0),
  (333, 1, .aload_n 2, 0, 0, 0, 0),
  (334, 1, .aload_n 0, 0, 0, 0, 0),
  (335, 1, .iload_n 3, 0, 0, 0, 0),
  (336, 1, .iconst 1, 0, 0, 0, 1),
  (337, 1, .iadd, 0, 0, 0, 0),
  (338, 1, .iaload, 0, 0, 0, 0),
  (339, 1, .aload_n 0, 0, 0, 0, 0),
  (340, 1, .iload_n 3, 0, 0, 0, 0),
  (341, 1, .iconst 2, 0, 0, 0, 2),
  (342, 1, .iadd, 0, 0, 0, 0),
  (343, 1, .iaload, 0, 0, 0, 0),
  (344, 3, .invokevirtual 55, 139, 0, 876, 0),
  (347, 3, .if_icmp .eq 258, 605, 0, 0, 0),
  (350, 1, .iconst 0, 0, 0, 0, 0),
  (351, 1, .ireturn, 0, 0, 0, 0),
  (352, 1, .aload_n 1, 0, 0, 0, 0),
  (353, 1, .aload_n 0, 0, 0, 0, 0),
  (354, 1, .iload_n 3, 0, 0, 0, 0),
  (355, 1, .iconst 1, 0, 0, 0, 1),
  (356, 1, .iadd, 0, 0, 0, 0),
  (357, 1, .iaload, 0, 0, 0, 0),
  (358, 1, .aload_n 0, 0, 0, 0, 0),
  (359, 1, .iload_n 3, 0, 0, 0, 0),
  (360, 1, .iconst 2, 0, 0, 0, 2),
  (361, 1, .iadd, 0, 0, 0, 0),
  (362, 1, .iaload, 0, 0, 0, 0),
  (363, 3, .invokevirtual 56, 84, 0, 530, 0),
  (366, 1, .aload_n 2, 0, 0, 0, 0),
  (367, 1, .aload_n 0, 0, 0, 0, 0),
  (368, 1, .iload_n 3, 0, 0, 0, 0),
  (369, 1, .iconst 1, 0, 0, 0, 1),
  (370, 1, .iadd, 0, 0, 0, 0),
  (371, 1, .iaload, 0, 0, 0, 0),
  (372, 1, .aload_n 0, 0, 0, 0, 0),
  (373, 1, .iload_n 3, 0, 0, 0, 0),
  (374, 1, .iconst 2, 0, 0, 0, 2),
  (375, 1, .iadd, 0, 0, 0, 0),
  (376, 1, .iaload, 0, 0, 0, 0),
  (377, 3, .invokevirtual 59, 132, 0, 885, 0),
  (380, 3, .if_icmp .eq 225, 605, 0, 0, 0),
  (383, 1, .iconst 0, 0, 0, 0, 0),
  (384, 1, .ireturn, 0, 0, 0, 0),
  (385, 1, .aload_n 1, 0, 0, 0, 0),
  (386, 1, .aload_n 0, 0, 0, 0, 0),
  (387, 1, .iload_n 3, 0, 0, 0, 0),
  (388, 1, .iconst 1, 0, 0, 0, 1),
  (389, 1, .iadd, 0, 0, 0, 0),
  (390, 1, .iaload, 0, 0, 0, 0),
  (391, 3, .invokevirtual 60, 77, 0, 534, 0),
  (394, 1, .aload_n 2, 0, 0, 0, 0),
  (395, 1, .aload_n 0, 0, 0, 0, 0),
  (396, 1, .iload_n 3, 0, 0, 0, 0),
  (397, 1, .iconst 1, 0, 0, 0, 1),
  (398, 1, .iadd, 0, 0, 0, 0),
  (399, 1, .iaload, 0, 0, 0, 0),
  (400, 3, .invokevirtual 63, 107, 0, 889, 0),
  (403, 3, .if_icmp .eq 202, 605, 0, 0, 0),
  (406, 1, .iconst 0, 0, 0, 0, 0),
  (407, 1, .ireturn, 0, 0, 0, 0),
  (408, 1, .aload_n 1, 0, 0, 0, 0),
  (409, 1, .aload_n 0, 0, 0, 0, 0),
  (410, 1, .iload_n 3, 0, 0, 0, 0),
  (411, 1, .iconst 1, 0, 0, 0, 1),
  (412, 1, .iadd, 0, 0, 0, 0),
  (413, 1, .iaload, 0, 0, 0, 0),
  (414, 3, .invokevirtual 64, 73, 0, 564, 0),
  (417, 1, .aload_n 2, 0, 0, 0, 0),
  (418, 1, .aload_n 0, 0, 0, 0, 0),
  (419, 1, .iload_n 3, 0, 0, 0, 0),
  (420, 1, .iconst 1, 0, 0, 0, 1),
  (421, 1, .iadd, 0, 0, 0, 0),
  (422, 1, .iaload, 0, 0, 0, 0),
  (423, 3, .invokevirtual 67, 97, 0, 893, 0),
  (426, 3, .if_icmp .eq 179, 605, 0, 0, 0),
  (429, 1, .iconst 0, 0, 0, 0, 0),
  (430, 1, .ireturn, 0, 0, 0, 0),
  (431, 1, .aload_n 1, 0, 0, 0, 0),
  (432, 1, .aload_n 0, 0, 0, 0, 0),
  (433, 1, .iload_n 3, 0, 0, 0, 0),
  (434, 1, .iconst 1, 0, 0, 0, 1),
  (435, 1, .iadd, 0, 0, 0, 0),
  (436, 1, .iaload, 0, 0, 0, 0),
  (437, 3, .invokevirtual 68, 74, 0, 568, 0),
  (440, 1, .aload_n 2, 0, 0, 0, 0),
  (441, 1, .aload_n 0, 0, 0, 0, 0),
  (442, 1, .iload_n 3, 0, 0, 0, 0),
  (443, 1, .iconst 1, 0, 0, 0, 1),
  (444, 1, .iadd, 0, 0, 0, 0),
  (445, 1, .iaload, 0, 0, 0, 0),
  (446, 3, .invokevirtual 71, 100, 0, 897, 0),
  (449, 3, .if_icmp .eq 156, 605, 0, 0, 0),
  (452, 1, .iconst 0, 0, 0, 0, 0),
  (453, 1, .ireturn, 0, 0, 0, 0),
  (454, 1, .aload_n 1, 0, 0, 0, 0),
  (455, 3, .invokevirtual 72, 83, 0, 583, 0),
  (458, 1, .aload_n 2, 0, 0, 0, 0),
  (459, 3, .invokevirtual 75, 127, 0, 907, 0),
  (462, 3, .if_icmp .eq 143, 605, 0, 0, 0),
  (465, 1, .iconst 0, 0, 0, 0, 0),
  (466, 1, .ireturn, 0, 0, 0, 0),
  (467, 1, .aload_n 1, 0, 0, 0, 0),
  (468, 1, .aload_n 0, 0, 0, 0, 0),
  (469, 1, .iload_n 3, 0, 0, 0, 0),
  (470, 1, .iconst 1, 0, 0, 0, 1),
  (471, 1, .iadd, 0, 0, 0, 0),
  (472, 1, .iaload, 0, 0, 0, 0),
  (473, 1, .aload_n 0, 0, 0, 0, 0),
  (474, 1, .iload_n 3, 0, 0, 0, 0),
  (475, 1, .iconst 2, 0, 0, 0, 2),
  (476, 1, .iadd, 0, 0, 0, 0),
  (477, 1, .iaload, 0, 0, 0, 0),
  (478, 3, .invokevirtual 76, 86, 0, 591, 0),
  (481, 1, .aload_n 2, 0, 0, 0, 0),
  (482, 1, .aload_n 0, 0, 0, 0, 0),
  (483, 1, .iload_n 3, 0, 0, 0, 0),
  (484, 1, .iconst 1, 0, 0, 0, 1),
  (485, 1, .iadd, 0, 0, 0, 0),
  (486, 1, .iaload, 0, 0, 0, 0),
  (487, 1, .aload_n 0, 0, 0, 0, 0),
  (488, 1, .iload_n 3, 0, 0, 0, 0),
  (489, 1, .iconst 2, 0, 0, 0, 2),
  (490, 1, .iadd, 0, 0, 0, 0),
  (491, 1, .iaload, 0, 0, 0, 0),
  (492, 3, .invokevirtual 79, 138, 0, 911, 0),
  (495, 3, .if_icmp .eq 110, 605, 0, 0, 0),
  (498, 1, .iconst 0, 0, 0, 0, 0),
  (499, 1, .ireturn, 0, 0, 0, 0),
  (500, 1, .aload_n 1, 0, 0, 0, 0),
  (501, 3, .invokevirtual 80, 78, 0, 599, 0),
  (504, 1, .aload_n 2, 0, 0, 0, 0),
  (505, 3, .invokevirtual 83, 112, 0, 915, 0),
  (508, 3, .if_icmp .eq 97, 605, 0, 0, 0),
  (511, 1, .iconst 0, 0, 0, 0, 0),
  (512, 1, .ireturn, 0, 0, 0, 0),
  (513, 1, .aload_n 1, 0, 0, 0, 0),
  (514, 1, .aload_n 0, 0, 0, 0, 0),
  (515, 1, .iload_n 3, 0, 0, 0, 0),
  (516, 1, .iconst 1, 0, 0, 0, 1),
  (517, 1, .iadd, 0, 0, 0, 0),
  (518, 1, .iaload, 0, 0, 0, 0),
  (519, 3, .invokevirtual 84, 93, 0, 607, 0),
  (522, 1, .aload_n 2, 0, 0, 0, 0),
  (523, 1, .aload_n 0, 0, 0, 0, 0),
  (524, 1, .iload_n 3, 0, 0, 0, 0),
  (525, 1, .iconst 1, 0, 0, 0, 1),
  (526, 1, .iadd, 0, 0, 0, 0),
  (527, 1, .iaload, 0, 0, 0, 0),
  (528, 3, .invokevirtual 87, 147, 0, 919, 0),
  (531, 3, .if_icmp .eq 74, 605, 0, 0, 0),
  (534, 1, .iconst 0, 0, 0, 0, 0),
  (535, 1, .ireturn, 0, 0, 0, 0),
  (536, 1, .aload_n 1, 0, 0, 0, 0),
  (537, 1, .aload_n 0, 0, 0, 0, 0),
  (538, 1, .iload_n 3, 0, 0, 0, 0),
  (539, 1, .iconst 1, 0, 0, 0, 1),
  (540, 1, .iadd, 0, 0, 0, 0),
  (541, 1, .iaload, 0, 0, 0, 0),
  (542, 3, .invokevirtual 88, 80, 0, 630, 0),
  (545, 1, .aload_n 2, 0, 0, 0, 0),
  (546, 1, .aload_n 0, 0, 0, 0, 0),
  (547, 1, .iload_n 3, 0, 0, 0, 0),
  (548, 1, .iconst 1, 0, 0, 0, 1),
  (549, 1, .iadd, 0, 0, 0, 0),
  (550, 1, .iaload, 0, 0, 0, 0),
  (551, 3, .invokevirtual 91, 123, 0, 927, 0),
  (554, 3, .if_icmp .eq 51, 605, 0, 0, 0),
  (557, 1, .iconst 0, 0, 0, 0, 0),
  (558, 1, .ireturn, 0, 0, 0, 0),
  (559, 1, .aload_n 1, 0, 0, 0, 0),
  (560, 1, .aload_n 0, 0, 0, 0, 0),
  (561, 1, .iload_n 3, 0, 0, 0, 0),
  (562, 1, .iconst 1, 0, 0, 0, 1),
  (563, 1, .iadd, 0, 0, 0, 0),
  (564, 1, .iaload, 0, 0, 0, 0),
  (565, 3, .invokevirtual 92, 72, 0, 634, 0),
  (568, 1, .aload_n 2, 0, 0, 0, 0),
  (569, 1, .aload_n 0, 0, 0, 0, 0),
  (570, 1, .iload_n 3, 0, 0, 0, 0),
  (571, 1, .iconst 1, 0, 0, 0, 1),
  (572, 1, .iadd, 0, 0, 0, 0),
  (573, 1, .iaload, 0, 0, 0, 0),
  (574, 3, .invokevirtual 95, 95, 0, 931, 0),
  (577, 3, .if_icmp .eq 28, 605, 0, 0, 0),
  (580, 1, .iconst 0, 0, 0, 0, 0),
  (581, 1, .ireturn, 0, 0, 0, 0),
  (582, 1, .aload_n 1, 0, 0, 0, 0),
  (583, 1, .aload_n 0, 0, 0, 0, 0),
  (584, 1, .iload_n 3, 0, 0, 0, 0),
  (585, 1, .iconst 1, 0, 0, 0, 1),
  (586, 1, .iadd, 0, 0, 0, 0),
  (587, 1, .iaload, 0, 0, 0, 0),
  (588, 3, .invokevirtual 96, 76, 0, 638, 0),
  (591, 1, .aload_n 2, 0, 0, 0, 0),
  (592, 1, .aload_n 0, 0, 0, 0, 0),
  (593, 1, .iload_n 3, 0, 0, 0, 0),
  (594, 1, .iconst 1, 0, 0, 0, 1),
  (595, 1, .iadd, 0, 0, 0, 0),
  (596, 1, .iaload, 0, 0, 0, 0),
  (597, 3, .invokevirtual 99, 102, 0, 935, 0),
  (600, 3, .if_icmp .eq 5, 605, 0, 0, 0),
  (603, 1, .iconst 0, 0, 0, 0, 0),
  (604, 1, .ireturn, 0, 0, 0, 0),
  (605, 3, .iinc 3 3, 0, 0, 0, 3),
  (608, 3, .goto (-590), 18, 0, 0, 0),
  (611, 1, .iconst 1, 0, 0, 0, 1),
  (612, 1, .ireturn, 0, 0, 0, 0)]
def mL_law : Mth := (⟨"SceneShotsLaw", "law", "([I)Z"⟩, "SceneShotsLaw", code, 4, (some .boolean), (11, 600000, 7302250), (0, 0, 30, 0), [18], tL_law, 1)
def MT (a : Nat) : Mth := match a with
  | 0 => mJ0_charAt_5068e
  | 1 => mJ0_checkIndex_df160
  | 2 => mJ0_coder_7d493
  | 3 => mJ0_isLatin1_aae02
  | 4 => mJ0_length_8abf5
  | 5 => mJ1_charAt_3b067
  | 6 => mJ3_checkIndex_8e157
  | 7 => mJ6_bitCount_0f7a4
  | 8 => mJ6_numberOfTrailingZeros_0f7a4
  | 9 => mJ6_signum_0f7a4
  | 10 => mX0_init
  | 11 => mX0_remember
  | 12 => mX0_restore
  | 13 => mX1_cheapestOf
  | 14 => mX1_cheapestSet
  | 15 => mX1_cutsFrom
  | 16 => mX1_dear
  | 17 => mX1_differsFrom
  | 18 => mX1_fewestBehind
  | 19 => mX1_findBest
  | 20 => mX1_followersOf
  | 21 => mX1_giveBestTo
  | 22 => mX1_hasWholeEdit
  | 23 => mX1_init
  | 24 => mX1_neededShots
  | 25 => mX1_planTrial
  | 26 => mX1_study
  | 27 => mX1_takeTrial
  | 28 => mX1_trialIsLower
  | 29 => mX2_dropText
  | 30 => mX2_init
  | 31 => mX2_isWord
  | 32 => mX2_kindAt
  | 33 => mX2_readInto
  | 34 => mX2_readItem
  | 35 => mX2_readLines
  | 36 => mX2_readPlayers
  | 37 => mX2_readShot
  | 38 => mX2_step
  | 39 => mX2_stepToFigure
  | 40 => mX2_stepToStop
  | 41 => mX2_takeLetter
  | 42 => mX3_become
  | 43 => mX3_canBeCut
  | 44 => mX3_coverers
  | 45 => mX3_covers
  | 46 => mX3_cuts
  | 47 => mX3_doubleReactions
  | 48 => mX3_dropShot
  | 49 => mX3_fact
  | 50 => mX3_hasLine
  | 51 => mX3_hasShot
  | 52 => mX3_init
  | 53 => mX3_isCutAhead
  | 54 => mX3_isReaction
  | 55 => mX3_linesWithoutShot
  | 56 => mX3_loseShotInEdit
  | 57 => mX3_near
  | 58 => mX3_partners
  | 59 => mX3_shotsUsed
  | 60 => mX3_side
  | 61 => mX3_startAnew
  | 62 => mX3_tooLike
  | 63 => mX3_wayX
  | 64 => mX3_wayY
  | 65 => mX3_wrongCuts
  | 66 => mX4_dropAll
  | 67 => mX4_fits
  | 68 => mX4_fitting
  | 69 => mX4_init
  | 70 => mX4_look
  | 71 => mX4_note
  | 72 => mX5_back
  | 73 => mX5_best
  | 74 => mX5_cheapest
  | 75 => mX5_clear
  | 76 => mX5_count
  | 77 => mX5_edit
  | 78 => mX5_forget
  | 79 => mX5_init
  | 80 => mX5_keep
  | 81 => mX5_line
  | 82 => mX5_makes
  | 83 => mX5_needed
  | 84 => mX5_player
  | 85 => mX5_puts
  | 86 => mX5_sees
  | 87 => mX5_shot
  | 88 => mX5_strikes
  | 89 => mX5_takes
  | 90 => mX5_tells
  | 91 => mX5_type
  | 92 => mX5_undo
  | 93 => mX5_which
  | 94 => mX6_areNear
  | 95 => mX6_back
  | 96 => mX6_beginRead
  | 97 => mX6_best
  | 98 => mX6_bring
  | 99 => mX6_canCut
  | 100 => mX6_cheapest
  | 101 => mX6_clear
  | 102 => mX6_count
  | 103 => mX6_covers
  | 104 => mX6_coversOf
  | 105 => mX6_cutsOf
  | 106 => mX6_dearOf
  | 107 => mX6_edit
  | 108 => mX6_figure
  | 109 => mX6_findBest
  | 110 => mX6_findCuts
  | 111 => mX6_findWay
  | 112 => mX6_forget
  | 113 => mX6_in
  | 114 => mX6_init
  | 115 => mX6_isBefore
  | 116 => mX6_isEnded
  | 117 => mX6_isFigure
  | 118 => mX6_isLetter
  | 119 => mX6_isLine
  | 120 => mX6_isReaction
  | 121 => mX6_isShot
  | 122 => mX6_isSo
  | 123 => mX6_keep
  | 124 => mX6_line
  | 125 => mX6_makes
  | 126 => mX6_mayFollow
  | 127 => mX6_needed
  | 128 => mX6_next
  | 129 => mX6_note
  | 130 => mX6_of
  | 131 => mX6_ones
  | 132 => mX6_player
  | 133 => mX6_puts
  | 134 => mX6_readLines
  | 135 => mX6_readPlayers
  | 136 => mX6_readShot
  | 137 => mX6_readText
  | 138 => mX6_sees
  | 139 => mX6_shot
  | 140 => mX6_sideOf
  | 141 => mX6_strikes
  | 142 => mX6_takes
  | 143 => mX6_tells
  | 144 => mX6_type
  | 145 => mX6_undo
  | 146 => mX6_wayOf
  | 147 => mX6_which
  | 148 => mX6_wordFrom
  | _ => mJ6_signum_0f7a4
end
section
set_option maxRecDepth 100000 in
theorem ok_J0_charAt_5068e : MOK mJ0_charAt_5068e := ⟨List.mem_filter.mpr ⟨List.mem_of_getElem? (i := 289) rfl, rfl⟩, List.mem_filter.mpr ⟨List.mem_of_getElem? (i := 38) (by decide +kernel), rfl⟩, by decide +kernel⟩
set_option maxRecDepth 100000 in
theorem ok_J0_checkIndex_df160 : MOK mJ0_checkIndex_df160 := ⟨List.mem_filter.mpr ⟨List.mem_of_getElem? (i := 299) rfl, rfl⟩, List.mem_filter.mpr ⟨List.mem_of_getElem? (i := 38) (by decide +kernel), rfl⟩, by decide +kernel⟩
set_option maxRecDepth 100000 in
theorem ok_J0_coder_7d493 : MOK mJ0_coder_7d493 := ⟨List.mem_filter.mpr ⟨List.mem_of_getElem? (i := 283) rfl, rfl⟩, List.mem_filter.mpr ⟨List.mem_of_getElem? (i := 38) (by decide +kernel), rfl⟩, by decide +kernel⟩
set_option maxRecDepth 100000 in
theorem ok_J0_isLatin1_aae02 : MOK mJ0_isLatin1_aae02 := ⟨List.mem_filter.mpr ⟨List.mem_of_getElem? (i := 293) rfl, rfl⟩, List.mem_filter.mpr ⟨List.mem_of_getElem? (i := 38) (by decide +kernel), rfl⟩, by decide +kernel⟩
set_option maxRecDepth 100000 in
theorem ok_J0_length_8abf5 : MOK mJ0_length_8abf5 := ⟨List.mem_filter.mpr ⟨List.mem_of_getElem? (i := 279) rfl, rfl⟩, List.mem_filter.mpr ⟨List.mem_of_getElem? (i := 38) (by decide +kernel), rfl⟩, by decide +kernel⟩
set_option maxRecDepth 100000 in
theorem ok_J1_charAt_3b067 : MOK mJ1_charAt_3b067 := ⟨List.mem_filter.mpr ⟨List.mem_of_getElem? (i := 296) rfl, rfl⟩, List.mem_filter.mpr ⟨List.mem_of_getElem? (i := 39) (by decide +kernel), rfl⟩, by decide +kernel⟩
set_option maxRecDepth 100000 in
theorem ok_J3_checkIndex_8e157 : MOK mJ3_checkIndex_8e157 := ⟨List.mem_filter.mpr ⟨List.mem_of_getElem? (i := 304) rfl, rfl⟩, List.mem_filter.mpr ⟨List.mem_of_getElem? (i := 40) (by decide +kernel), rfl⟩, by decide +kernel⟩
set_option maxRecDepth 100000 in
theorem ok_J6_bitCount_0f7a4 : MOK mJ6_bitCount_0f7a4 := ⟨List.mem_filter.mpr ⟨List.mem_of_getElem? (i := 464) rfl, rfl⟩, List.mem_filter.mpr ⟨List.mem_of_getElem? (i := 44) (by decide +kernel), rfl⟩, by decide +kernel⟩
set_option maxRecDepth 100000 in
theorem ok_J6_numberOfTrailingZeros_0f7a4 : MOK mJ6_numberOfTrailingZeros_0f7a4 := ⟨List.mem_filter.mpr ⟨List.mem_of_getElem? (i := 628) rfl, rfl⟩, List.mem_filter.mpr ⟨List.mem_of_getElem? (i := 44) (by decide +kernel), rfl⟩, by decide +kernel⟩
set_option maxRecDepth 100000 in
theorem ok_J6_signum_0f7a4 : MOK mJ6_signum_0f7a4 := ⟨List.mem_filter.mpr ⟨List.mem_of_getElem? (i := 424) rfl, rfl⟩, List.mem_filter.mpr ⟨List.mem_of_getElem? (i := 44) (by decide +kernel), rfl⟩, by decide +kernel⟩
set_option maxRecDepth 100000 in
theorem ok_X0_init : MOK mX0_init := ⟨List.mem_filter.mpr ⟨List.mem_of_getElem? (i := 101) rfl, rfl⟩, List.mem_filter.mpr ⟨List.mem_of_getElem? (i := 33) (by decide +kernel), rfl⟩, by decide +kernel⟩
set_option maxRecDepth 100000 in
theorem ok_X0_remember : MOK mX0_remember := ⟨List.mem_filter.mpr ⟨List.mem_of_getElem? (i := 353) rfl, rfl⟩, List.mem_filter.mpr ⟨List.mem_of_getElem? (i := 33) (by decide +kernel), rfl⟩, by decide +kernel⟩
set_option maxRecDepth 100000 in
theorem ok_X0_restore : MOK mX0_restore := ⟨List.mem_filter.mpr ⟨List.mem_of_getElem? (i := 513) rfl, rfl⟩, List.mem_filter.mpr ⟨List.mem_of_getElem? (i := 33) (by decide +kernel), rfl⟩, by decide +kernel⟩
set_option maxRecDepth 100000 in
theorem ok_X1_cheapestOf : MOK mX1_cheapestOf := ⟨List.mem_filter.mpr ⟨List.mem_of_getElem? (i := 483) rfl, rfl⟩, List.mem_filter.mpr ⟨List.mem_of_getElem? (i := 35) (by decide +kernel), rfl⟩, by decide +kernel⟩
set_option maxRecDepth 100000 in
theorem ok_X1_cheapestSet : MOK mX1_cheapestSet := ⟨List.mem_filter.mpr ⟨List.mem_of_getElem? (i := 575) rfl, rfl⟩, List.mem_filter.mpr ⟨List.mem_of_getElem? (i := 35) (by decide +kernel), rfl⟩, by decide +kernel⟩
set_option maxRecDepth 100000 in
theorem ok_X1_cutsFrom : MOK mX1_cutsFrom := ⟨List.mem_filter.mpr ⟨List.mem_of_getElem? (i := 487) rfl, rfl⟩, List.mem_filter.mpr ⟨List.mem_of_getElem? (i := 35) (by decide +kernel), rfl⟩, by decide +kernel⟩
set_option maxRecDepth 100000 in
theorem ok_X1_dear : MOK mX1_dear := ⟨List.mem_filter.mpr ⟨List.mem_of_getElem? (i := 579) rfl, rfl⟩, List.mem_filter.mpr ⟨List.mem_of_getElem? (i := 35) (by decide +kernel), rfl⟩, by decide +kernel⟩
set_option maxRecDepth 100000 in
theorem ok_X1_differsFrom : MOK mX1_differsFrom := ⟨List.mem_filter.mpr ⟨List.mem_of_getElem? (i := 501) rfl, rfl⟩, List.mem_filter.mpr ⟨List.mem_of_getElem? (i := 35) (by decide +kernel), rfl⟩, by decide +kernel⟩
set_option maxRecDepth 100000 in
theorem ok_X1_fewestBehind : MOK mX1_fewestBehind := ⟨List.mem_filter.mpr ⟨List.mem_of_getElem? (i := 479) rfl, rfl⟩, List.mem_filter.mpr ⟨List.mem_of_getElem? (i := 35) (by decide +kernel), rfl⟩, by decide +kernel⟩
set_option maxRecDepth 100000 in
theorem ok_X1_findBest : MOK mX1_findBest := ⟨List.mem_filter.mpr ⟨List.mem_of_getElem? (i := 461) rfl, rfl⟩, List.mem_filter.mpr ⟨List.mem_of_getElem? (i := 35) (by decide +kernel), rfl⟩, by decide +kernel⟩
set_option maxRecDepth 100000 in
theorem ok_X1_followersOf : MOK mX1_followersOf := ⟨List.mem_filter.mpr ⟨List.mem_of_getElem? (i := 453) rfl, rfl⟩, List.mem_filter.mpr ⟨List.mem_of_getElem? (i := 35) (by decide +kernel), rfl⟩, by decide +kernel⟩
set_option maxRecDepth 100000 in
theorem ok_X1_giveBestTo : MOK mX1_giveBestTo := ⟨List.mem_filter.mpr ⟨List.mem_of_getElem? (i := 505) rfl, rfl⟩, List.mem_filter.mpr ⟨List.mem_of_getElem? (i := 35) (by decide +kernel), rfl⟩, by decide +kernel⟩
set_option maxRecDepth 100000 in
theorem ok_X1_hasWholeEdit : MOK mX1_hasWholeEdit := ⟨List.mem_filter.mpr ⟨List.mem_of_getElem? (i := 471) rfl, rfl⟩, List.mem_filter.mpr ⟨List.mem_of_getElem? (i := 35) (by decide +kernel), rfl⟩, by decide +kernel⟩
set_option maxRecDepth 100000 in
theorem ok_X1_init : MOK mX1_init := ⟨List.mem_filter.mpr ⟨List.mem_of_getElem? (i := 150) rfl, rfl⟩, List.mem_filter.mpr ⟨List.mem_of_getElem? (i := 35) (by decide +kernel), rfl⟩, by decide +kernel⟩
set_option maxRecDepth 100000 in
theorem ok_X1_neededShots : MOK mX1_neededShots := ⟨List.mem_filter.mpr ⟨List.mem_of_getElem? (i := 590) rfl, rfl⟩, List.mem_filter.mpr ⟨List.mem_of_getElem? (i := 35) (by decide +kernel), rfl⟩, by decide +kernel⟩
set_option maxRecDepth 100000 in
theorem ok_X1_planTrial : MOK mX1_planTrial := ⟨List.mem_filter.mpr ⟨List.mem_of_getElem? (i := 475) rfl, rfl⟩, List.mem_filter.mpr ⟨List.mem_of_getElem? (i := 35) (by decide +kernel), rfl⟩, by decide +kernel⟩
set_option maxRecDepth 100000 in
theorem ok_X1_study : MOK mX1_study := ⟨List.mem_filter.mpr ⟨List.mem_of_getElem? (i := 409) rfl, rfl⟩, List.mem_filter.mpr ⟨List.mem_of_getElem? (i := 35) (by decide +kernel), rfl⟩, by decide +kernel⟩
set_option maxRecDepth 100000 in
theorem ok_X1_takeTrial : MOK mX1_takeTrial := ⟨List.mem_filter.mpr ⟨List.mem_of_getElem? (i := 496) rfl, rfl⟩, List.mem_filter.mpr ⟨List.mem_of_getElem? (i := 35) (by decide +kernel), rfl⟩, by decide +kernel⟩
set_option maxRecDepth 100000 in
theorem ok_X1_trialIsLower : MOK mX1_trialIsLower := ⟨List.mem_filter.mpr ⟨List.mem_of_getElem? (i := 492) rfl, rfl⟩, List.mem_filter.mpr ⟨List.mem_of_getElem? (i := 35) (by decide +kernel), rfl⟩, by decide +kernel⟩
set_option maxRecDepth 100000 in
theorem ok_X2_dropText : MOK mX2_dropText := ⟨List.mem_filter.mpr ⟨List.mem_of_getElem? (i := 249) rfl, rfl⟩, List.mem_filter.mpr ⟨List.mem_of_getElem? (i := 34) (by decide +kernel), rfl⟩, by decide +kernel⟩
set_option maxRecDepth 100000 in
theorem ok_X2_init : MOK mX2_init := ⟨List.mem_filter.mpr ⟨List.mem_of_getElem? (i := 121) rfl, rfl⟩, List.mem_filter.mpr ⟨List.mem_of_getElem? (i := 34) (by decide +kernel), rfl⟩, by decide +kernel⟩
set_option maxRecDepth 100000 in
theorem ok_X2_isWord : MOK mX2_isWord := ⟨List.mem_filter.mpr ⟨List.mem_of_getElem? (i := 275) rfl, rfl⟩, List.mem_filter.mpr ⟨List.mem_of_getElem? (i := 34) (by decide +kernel), rfl⟩, by decide +kernel⟩
set_option maxRecDepth 100000 in
theorem ok_X2_kindAt : MOK mX2_kindAt := ⟨List.mem_filter.mpr ⟨List.mem_of_getElem? (i := 266) rfl, rfl⟩, List.mem_filter.mpr ⟨List.mem_of_getElem? (i := 34) (by decide +kernel), rfl⟩, by decide +kernel⟩
set_option maxRecDepth 100000 in
theorem ok_X2_readInto : MOK mX2_readInto := ⟨List.mem_filter.mpr ⟨List.mem_of_getElem? (i := 257) rfl, rfl⟩, List.mem_filter.mpr ⟨List.mem_of_getElem? (i := 34) (by decide +kernel), rfl⟩, by decide +kernel⟩
set_option maxRecDepth 100000 in
theorem ok_X2_readItem : MOK mX2_readItem := ⟨List.mem_filter.mpr ⟨List.mem_of_getElem? (i := 270) rfl, rfl⟩, List.mem_filter.mpr ⟨List.mem_of_getElem? (i := 34) (by decide +kernel), rfl⟩, by decide +kernel⟩
set_option maxRecDepth 100000 in
theorem ok_X2_readLines : MOK mX2_readLines := ⟨List.mem_filter.mpr ⟨List.mem_of_getElem? (i := 340) rfl, rfl⟩, List.mem_filter.mpr ⟨List.mem_of_getElem? (i := 34) (by decide +kernel), rfl⟩, by decide +kernel⟩
set_option maxRecDepth 100000 in
theorem ok_X2_readPlayers : MOK mX2_readPlayers := ⟨List.mem_filter.mpr ⟨List.mem_of_getElem? (i := 327) rfl, rfl⟩, List.mem_filter.mpr ⟨List.mem_of_getElem? (i := 34) (by decide +kernel), rfl⟩, by decide +kernel⟩
set_option maxRecDepth 100000 in
theorem ok_X2_readShot : MOK mX2_readShot := ⟨List.mem_filter.mpr ⟨List.mem_of_getElem? (i := 345) rfl, rfl⟩, List.mem_filter.mpr ⟨List.mem_of_getElem? (i := 34) (by decide +kernel), rfl⟩, by decide +kernel⟩
set_option maxRecDepth 100000 in
theorem ok_X2_step : MOK mX2_step := ⟨List.mem_filter.mpr ⟨List.mem_of_getElem? (i := 262) rfl, rfl⟩, List.mem_filter.mpr ⟨List.mem_of_getElem? (i := 34) (by decide +kernel), rfl⟩, by decide +kernel⟩
set_option maxRecDepth 100000 in
theorem ok_X2_stepToFigure : MOK mX2_stepToFigure := ⟨List.mem_filter.mpr ⟨List.mem_of_getElem? (i := 331) rfl, rfl⟩, List.mem_filter.mpr ⟨List.mem_of_getElem? (i := 34) (by decide +kernel), rfl⟩, by decide +kernel⟩
set_option maxRecDepth 100000 in
theorem ok_X2_stepToStop : MOK mX2_stepToStop := ⟨List.mem_filter.mpr ⟨List.mem_of_getElem? (i := 335) rfl, rfl⟩, List.mem_filter.mpr ⟨List.mem_of_getElem? (i := 34) (by decide +kernel), rfl⟩, by decide +kernel⟩
set_option maxRecDepth 100000 in
theorem ok_X2_takeLetter : MOK mX2_takeLetter := ⟨List.mem_filter.mpr ⟨List.mem_of_getElem? (i := 241) rfl, rfl⟩, List.mem_filter.mpr ⟨List.mem_of_getElem? (i := 34) (by decide +kernel), rfl⟩, by decide +kernel⟩
set_option maxRecDepth 100000 in
theorem ok_X3_become : MOK mX3_become := ⟨List.mem_filter.mpr ⟨List.mem_of_getElem? (i := 357) rfl, rfl⟩, List.mem_filter.mpr ⟨List.mem_of_getElem? (i := 32) (by decide +kernel), rfl⟩, by decide +kernel⟩
set_option maxRecDepth 100000 in
theorem ok_X3_canBeCut : MOK mX3_canBeCut := ⟨List.mem_filter.mpr ⟨List.mem_of_getElem? (i := 417) rfl, rfl⟩, List.mem_filter.mpr ⟨List.mem_of_getElem? (i := 32) (by decide +kernel), rfl⟩, by decide +kernel⟩
set_option maxRecDepth 100000 in
theorem ok_X3_coverers : MOK mX3_coverers := ⟨List.mem_filter.mpr ⟨List.mem_of_getElem? (i := 448) rfl, rfl⟩, List.mem_filter.mpr ⟨List.mem_of_getElem? (i := 32) (by decide +kernel), rfl⟩, by decide +kernel⟩
set_option maxRecDepth 100000 in
theorem ok_X3_covers : MOK mX3_covers := ⟨List.mem_filter.mpr ⟨List.mem_of_getElem? (i := 381) rfl, rfl⟩, List.mem_filter.mpr ⟨List.mem_of_getElem? (i := 32) (by decide +kernel), rfl⟩, by decide +kernel⟩
set_option maxRecDepth 100000 in
theorem ok_X3_cuts : MOK mX3_cuts := ⟨List.mem_filter.mpr ⟨List.mem_of_getElem? (i := 558) rfl, rfl⟩, List.mem_filter.mpr ⟨List.mem_of_getElem? (i := 32) (by decide +kernel), rfl⟩, by decide +kernel⟩
set_option maxRecDepth 100000 in
theorem ok_X3_doubleReactions : MOK mX3_doubleReactions := ⟨List.mem_filter.mpr ⟨List.mem_of_getElem? (i := 553) rfl, rfl⟩, List.mem_filter.mpr ⟨List.mem_of_getElem? (i := 32) (by decide +kernel), rfl⟩, by decide +kernel⟩
set_option maxRecDepth 100000 in
theorem ok_X3_dropShot : MOK mX3_dropShot := ⟨List.mem_filter.mpr ⟨List.mem_of_getElem? (i := 397) rfl, rfl⟩, List.mem_filter.mpr ⟨List.mem_of_getElem? (i := 32) (by decide +kernel), rfl⟩, by decide +kernel⟩
set_option maxRecDepth 100000 in
theorem ok_X3_fact : MOK mX3_fact := ⟨List.mem_filter.mpr ⟨List.mem_of_getElem? (i := 385) rfl, rfl⟩, List.mem_filter.mpr ⟨List.mem_of_getElem? (i := 32) (by decide +kernel), rfl⟩, by decide +kernel⟩
set_option maxRecDepth 100000 in
theorem ok_X3_hasLine : MOK mX3_hasLine := ⟨List.mem_filter.mpr ⟨List.mem_of_getElem? (i := 373) rfl, rfl⟩, List.mem_filter.mpr ⟨List.mem_of_getElem? (i := 32) (by decide +kernel), rfl⟩, by decide +kernel⟩
set_option maxRecDepth 100000 in
theorem ok_X3_hasShot : MOK mX3_hasShot := ⟨List.mem_filter.mpr ⟨List.mem_of_getElem? (i := 377) rfl, rfl⟩, List.mem_filter.mpr ⟨List.mem_of_getElem? (i := 32) (by decide +kernel), rfl⟩, by decide +kernel⟩
set_option maxRecDepth 100000 in
theorem ok_X3_init : MOK mX3_init := ⟨List.mem_filter.mpr ⟨List.mem_of_getElem? (i := 57) rfl, rfl⟩, List.mem_filter.mpr ⟨List.mem_of_getElem? (i := 32) (by decide +kernel), rfl⟩, by decide +kernel⟩
set_option maxRecDepth 100000 in
theorem ok_X3_isCutAhead : MOK mX3_isCutAhead := ⟨List.mem_filter.mpr ⟨List.mem_of_getElem? (i := 549) rfl, rfl⟩, List.mem_filter.mpr ⟨List.mem_of_getElem? (i := 32) (by decide +kernel), rfl⟩, by decide +kernel⟩
set_option maxRecDepth 100000 in
theorem ok_X3_isReaction : MOK mX3_isReaction := ⟨List.mem_filter.mpr ⟨List.mem_of_getElem? (i := 457) rfl, rfl⟩, List.mem_filter.mpr ⟨List.mem_of_getElem? (i := 32) (by decide +kernel), rfl⟩, by decide +kernel⟩
set_option maxRecDepth 100000 in
theorem ok_X3_linesWithoutShot : MOK mX3_linesWithoutShot := ⟨List.mem_filter.mpr ⟨List.mem_of_getElem? (i := 541) rfl, rfl⟩, List.mem_filter.mpr ⟨List.mem_of_getElem? (i := 32) (by decide +kernel), rfl⟩, by decide +kernel⟩
set_option maxRecDepth 100000 in
theorem ok_X3_loseShotInEdit : MOK mX3_loseShotInEdit := ⟨List.mem_filter.mpr ⟨List.mem_of_getElem? (i := 401) rfl, rfl⟩, List.mem_filter.mpr ⟨List.mem_of_getElem? (i := 32) (by decide +kernel), rfl⟩, by decide +kernel⟩
set_option maxRecDepth 100000 in
theorem ok_X3_near : MOK mX3_near := ⟨List.mem_filter.mpr ⟨List.mem_of_getElem? (i := 435) rfl, rfl⟩, List.mem_filter.mpr ⟨List.mem_of_getElem? (i := 32) (by decide +kernel), rfl⟩, by decide +kernel⟩
set_option maxRecDepth 100000 in
theorem ok_X3_partners : MOK mX3_partners := ⟨List.mem_filter.mpr ⟨List.mem_of_getElem? (i := 413) rfl, rfl⟩, List.mem_filter.mpr ⟨List.mem_of_getElem? (i := 32) (by decide +kernel), rfl⟩, by decide +kernel⟩
set_option maxRecDepth 100000 in
theorem ok_X3_shotsUsed : MOK mX3_shotsUsed := ⟨List.mem_filter.mpr ⟨List.mem_of_getElem? (i := 562) rfl, rfl⟩, List.mem_filter.mpr ⟨List.mem_of_getElem? (i := 32) (by decide +kernel), rfl⟩, by decide +kernel⟩
set_option maxRecDepth 100000 in
theorem ok_X3_side : MOK mX3_side := ⟨List.mem_filter.mpr ⟨List.mem_of_getElem? (i := 421) rfl, rfl⟩, List.mem_filter.mpr ⟨List.mem_of_getElem? (i := 32) (by decide +kernel), rfl⟩, by decide +kernel⟩
set_option maxRecDepth 100000 in
theorem ok_X3_startAnew : MOK mX3_startAnew := ⟨List.mem_filter.mpr ⟨List.mem_of_getElem? (i := 62) rfl, rfl⟩, List.mem_filter.mpr ⟨List.mem_of_getElem? (i := 32) (by decide +kernel), rfl⟩, by decide +kernel⟩
set_option maxRecDepth 100000 in
theorem ok_X3_tooLike : MOK mX3_tooLike := ⟨List.mem_filter.mpr ⟨List.mem_of_getElem? (i := 428) rfl, rfl⟩, List.mem_filter.mpr ⟨List.mem_of_getElem? (i := 32) (by decide +kernel), rfl⟩, by decide +kernel⟩
set_option maxRecDepth 100000 in
theorem ok_X3_wayX : MOK mX3_wayX := ⟨List.mem_filter.mpr ⟨List.mem_of_getElem? (i := 439) rfl, rfl⟩, List.mem_filter.mpr ⟨List.mem_of_getElem? (i := 32) (by decide +kernel), rfl⟩, by decide +kernel⟩
set_option maxRecDepth 100000 in
theorem ok_X3_wayY : MOK mX3_wayY := ⟨List.mem_filter.mpr ⟨List.mem_of_getElem? (i := 443) rfl, rfl⟩, List.mem_filter.mpr ⟨List.mem_of_getElem? (i := 32) (by decide +kernel), rfl⟩, by decide +kernel⟩
set_option maxRecDepth 100000 in
theorem ok_X3_wrongCuts : MOK mX3_wrongCuts := ⟨List.mem_filter.mpr ⟨List.mem_of_getElem? (i := 545) rfl, rfl⟩, List.mem_filter.mpr ⟨List.mem_of_getElem? (i := 32) (by decide +kernel), rfl⟩, by decide +kernel⟩
set_option maxRecDepth 100000 in
theorem ok_X4_dropAll : MOK mX4_dropAll := ⟨List.mem_filter.mpr ⟨List.mem_of_getElem? (i := 606) rfl, rfl⟩, List.mem_filter.mpr ⟨List.mem_of_getElem? (i := 36) (by decide +kernel), rfl⟩, by decide +kernel⟩
set_option maxRecDepth 100000 in
theorem ok_X4_fits : MOK mX4_fits := ⟨List.mem_filter.mpr ⟨List.mem_of_getElem? (i := 618) rfl, rfl⟩, List.mem_filter.mpr ⟨List.mem_of_getElem? (i := 36) (by decide +kernel), rfl⟩, by decide +kernel⟩
set_option maxRecDepth 100000 in
theorem ok_X4_fitting : MOK mX4_fitting := ⟨List.mem_filter.mpr ⟨List.mem_of_getElem? (i := 614) rfl, rfl⟩, List.mem_filter.mpr ⟨List.mem_of_getElem? (i := 36) (by decide +kernel), rfl⟩, by decide +kernel⟩
set_option maxRecDepth 100000 in
theorem ok_X4_init : MOK mX4_init := ⟨List.mem_filter.mpr ⟨List.mem_of_getElem? (i := 195) rfl, rfl⟩, List.mem_filter.mpr ⟨List.mem_of_getElem? (i := 36) (by decide +kernel), rfl⟩, by decide +kernel⟩
set_option maxRecDepth 100000 in
theorem ok_X4_look : MOK mX4_look := ⟨List.mem_filter.mpr ⟨List.mem_of_getElem? (i := 622) rfl, rfl⟩, List.mem_filter.mpr ⟨List.mem_of_getElem? (i := 36) (by decide +kernel), rfl⟩, by decide +kernel⟩
set_option maxRecDepth 100000 in
theorem ok_X4_note : MOK mX4_note := ⟨List.mem_filter.mpr ⟨List.mem_of_getElem? (i := 598) rfl, rfl⟩, List.mem_filter.mpr ⟨List.mem_of_getElem? (i := 36) (by decide +kernel), rfl⟩, by decide +kernel⟩
set_option maxRecDepth 100000 in
theorem ok_X5_back : MOK mX5_back := ⟨List.mem_filter.mpr ⟨List.mem_of_getElem? (i := 637) rfl, rfl⟩, List.mem_filter.mpr ⟨List.mem_of_getElem? (i := 31) (by decide +kernel), rfl⟩, by decide +kernel⟩
set_option maxRecDepth 100000 in
theorem ok_X5_best : MOK mX5_best := ⟨List.mem_filter.mpr ⟨List.mem_of_getElem? (i := 567) rfl, rfl⟩, List.mem_filter.mpr ⟨List.mem_of_getElem? (i := 31) (by decide +kernel), rfl⟩, by decide +kernel⟩
set_option maxRecDepth 100000 in
theorem ok_X5_cheapest : MOK mX5_cheapest := ⟨List.mem_filter.mpr ⟨List.mem_of_getElem? (i := 571) rfl, rfl⟩, List.mem_filter.mpr ⟨List.mem_of_getElem? (i := 31) (by decide +kernel), rfl⟩, by decide +kernel⟩
set_option maxRecDepth 100000 in
theorem ok_X5_clear : MOK mX5_clear := ⟨List.mem_filter.mpr ⟨List.mem_of_getElem? (i := 245) rfl, rfl⟩, List.mem_filter.mpr ⟨List.mem_of_getElem? (i := 31) (by decide +kernel), rfl⟩, by decide +kernel⟩
set_option maxRecDepth 100000 in
theorem ok_X5_count : MOK mX5_count := ⟨List.mem_filter.mpr ⟨List.mem_of_getElem? (i := 641) rfl, rfl⟩, List.mem_filter.mpr ⟨List.mem_of_getElem? (i := 31) (by decide +kernel), rfl⟩, by decide +kernel⟩
set_option maxRecDepth 100000 in
theorem ok_X5_edit : MOK mX5_edit := ⟨List.mem_filter.mpr ⟨List.mem_of_getElem? (i := 537) rfl, rfl⟩, List.mem_filter.mpr ⟨List.mem_of_getElem? (i := 31) (by decide +kernel), rfl⟩, by decide +kernel⟩
set_option maxRecDepth 100000 in
theorem ok_X5_forget : MOK mX5_forget := ⟨List.mem_filter.mpr ⟨List.mem_of_getElem? (i := 602) rfl, rfl⟩, List.mem_filter.mpr ⟨List.mem_of_getElem? (i := 31) (by decide +kernel), rfl⟩, by decide +kernel⟩
set_option maxRecDepth 100000 in
theorem ok_X5_init : MOK mX5_init := ⟨List.mem_filter.mpr ⟨List.mem_of_getElem? (i := 49) rfl, rfl⟩, List.mem_filter.mpr ⟨List.mem_of_getElem? (i := 31) (by decide +kernel), rfl⟩, by decide +kernel⟩
set_option maxRecDepth 100000 in
theorem ok_X5_keep : MOK mX5_keep := ⟨List.mem_filter.mpr ⟨List.mem_of_getElem? (i := 633) rfl, rfl⟩, List.mem_filter.mpr ⟨List.mem_of_getElem? (i := 31) (by decide +kernel), rfl⟩, by decide +kernel⟩
set_option maxRecDepth 100000 in
theorem ok_X5_line : MOK mX5_line := ⟨List.mem_filter.mpr ⟨List.mem_of_getElem? (i := 517) rfl, rfl⟩, List.mem_filter.mpr ⟨List.mem_of_getElem? (i := 31) (by decide +kernel), rfl⟩, by decide +kernel⟩
set_option maxRecDepth 100000 in
theorem ok_X5_makes : MOK mX5_makes := ⟨List.mem_filter.mpr ⟨List.mem_of_getElem? (i := 405) rfl, rfl⟩, List.mem_filter.mpr ⟨List.mem_of_getElem? (i := 31) (by decide +kernel), rfl⟩, by decide +kernel⟩
set_option maxRecDepth 100000 in
theorem ok_X5_needed : MOK mX5_needed := ⟨List.mem_filter.mpr ⟨List.mem_of_getElem? (i := 586) rfl, rfl⟩, List.mem_filter.mpr ⟨List.mem_of_getElem? (i := 31) (by decide +kernel), rfl⟩, by decide +kernel⟩
set_option maxRecDepth 100000 in
theorem ok_X5_player : MOK mX5_player := ⟨List.mem_filter.mpr ⟨List.mem_of_getElem? (i := 533) rfl, rfl⟩, List.mem_filter.mpr ⟨List.mem_of_getElem? (i := 31) (by decide +kernel), rfl⟩, by decide +kernel⟩
set_option maxRecDepth 100000 in
theorem ok_X5_puts : MOK mX5_puts := ⟨List.mem_filter.mpr ⟨List.mem_of_getElem? (i := 369) rfl, rfl⟩, List.mem_filter.mpr ⟨List.mem_of_getElem? (i := 31) (by decide +kernel), rfl⟩, by decide +kernel⟩
set_option maxRecDepth 100000 in
theorem ok_X5_sees : MOK mX5_sees := ⟨List.mem_filter.mpr ⟨List.mem_of_getElem? (i := 594) rfl, rfl⟩, List.mem_filter.mpr ⟨List.mem_of_getElem? (i := 31) (by decide +kernel), rfl⟩, by decide +kernel⟩
set_option maxRecDepth 100000 in
theorem ok_X5_shot : MOK mX5_shot := ⟨List.mem_filter.mpr ⟨List.mem_of_getElem? (i := 523) rfl, rfl⟩, List.mem_filter.mpr ⟨List.mem_of_getElem? (i := 31) (by decide +kernel), rfl⟩, by decide +kernel⟩
set_option maxRecDepth 100000 in
theorem ok_X5_strikes : MOK mX5_strikes := ⟨List.mem_filter.mpr ⟨List.mem_of_getElem? (i := 393) rfl, rfl⟩, List.mem_filter.mpr ⟨List.mem_of_getElem? (i := 31) (by decide +kernel), rfl⟩, by decide +kernel⟩
set_option maxRecDepth 100000 in
theorem ok_X5_takes : MOK mX5_takes := ⟨List.mem_filter.mpr ⟨List.mem_of_getElem? (i := 389) rfl, rfl⟩, List.mem_filter.mpr ⟨List.mem_of_getElem? (i := 31) (by decide +kernel), rfl⟩, by decide +kernel⟩
set_option maxRecDepth 100000 in
theorem ok_X5_tells : MOK mX5_tells := ⟨List.mem_filter.mpr ⟨List.mem_of_getElem? (i := 253) rfl, rfl⟩, List.mem_filter.mpr ⟨List.mem_of_getElem? (i := 31) (by decide +kernel), rfl⟩, by decide +kernel⟩
set_option maxRecDepth 100000 in
theorem ok_X5_type : MOK mX5_type := ⟨List.mem_filter.mpr ⟨List.mem_of_getElem? (i := 237) rfl, rfl⟩, List.mem_filter.mpr ⟨List.mem_of_getElem? (i := 31) (by decide +kernel), rfl⟩, by decide +kernel⟩
set_option maxRecDepth 100000 in
theorem ok_X5_undo : MOK mX5_undo := ⟨List.mem_filter.mpr ⟨List.mem_of_getElem? (i := 509) rfl, rfl⟩, List.mem_filter.mpr ⟨List.mem_of_getElem? (i := 31) (by decide +kernel), rfl⟩, by decide +kernel⟩
set_option maxRecDepth 100000 in
theorem ok_X5_which : MOK mX5_which := ⟨List.mem_filter.mpr ⟨List.mem_of_getElem? (i := 610) rfl, rfl⟩, List.mem_filter.mpr ⟨List.mem_of_getElem? (i := 31) (by decide +kernel), rfl⟩, by decide +kernel⟩
set_option maxRecDepth 100000 in
theorem ok_X6_areNear : MOK mX6_areNear := ⟨List.mem_filter.mpr ⟨List.mem_of_getElem? (i := 847) rfl, rfl⟩, List.mem_filter.mpr ⟨List.mem_of_getElem? (i := 37) (by decide +kernel), rfl⟩, by decide +kernel⟩
set_option maxRecDepth 100000 in
theorem ok_X6_back : MOK mX6_back := ⟨List.mem_filter.mpr ⟨List.mem_of_getElem? (i := 934) rfl, rfl⟩, List.mem_filter.mpr ⟨List.mem_of_getElem? (i := 37) (by decide +kernel), rfl⟩, by decide +kernel⟩
set_option maxRecDepth 100000 in
theorem ok_X6_beginRead : MOK mX6_beginRead := ⟨List.mem_filter.mpr ⟨List.mem_of_getElem? (i := 651) rfl, rfl⟩, List.mem_filter.mpr ⟨List.mem_of_getElem? (i := 37) (by decide +kernel), rfl⟩, by decide +kernel⟩
set_option maxRecDepth 100000 in
theorem ok_X6_best : MOK mX6_best := ⟨List.mem_filter.mpr ⟨List.mem_of_getElem? (i := 896) rfl, rfl⟩, List.mem_filter.mpr ⟨List.mem_of_getElem? (i := 37) (by decide +kernel), rfl⟩, by decide +kernel⟩
set_option maxRecDepth 100000 in
theorem ok_X6_bring : MOK mX6_bring := ⟨List.mem_filter.mpr ⟨List.mem_of_getElem? (i := 654) rfl, rfl⟩, List.mem_filter.mpr ⟨List.mem_of_getElem? (i := 37) (by decide +kernel), rfl⟩, by decide +kernel⟩
set_option maxRecDepth 100000 in
theorem ok_X6_canCut : MOK mX6_canCut := ⟨List.mem_filter.mpr ⟨List.mem_of_getElem? (i := 843) rfl, rfl⟩, List.mem_filter.mpr ⟨List.mem_of_getElem? (i := 37) (by decide +kernel), rfl⟩, by decide +kernel⟩
set_option maxRecDepth 100000 in
theorem ok_X6_cheapest : MOK mX6_cheapest := ⟨List.mem_filter.mpr ⟨List.mem_of_getElem? (i := 900) rfl, rfl⟩, List.mem_filter.mpr ⟨List.mem_of_getElem? (i := 37) (by decide +kernel), rfl⟩, by decide +kernel⟩
set_option maxRecDepth 100000 in
theorem ok_X6_clear : MOK mX6_clear := ⟨List.mem_filter.mpr ⟨List.mem_of_getElem? (i := 735) rfl, rfl⟩, List.mem_filter.mpr ⟨List.mem_of_getElem? (i := 37) (by decide +kernel), rfl⟩, by decide +kernel⟩
set_option maxRecDepth 100000 in
theorem ok_X6_count : MOK mX6_count := ⟨List.mem_filter.mpr ⟨List.mem_of_getElem? (i := 938) rfl, rfl⟩, List.mem_filter.mpr ⟨List.mem_of_getElem? (i := 37) (by decide +kernel), rfl⟩, by decide +kernel⟩
set_option maxRecDepth 100000 in
theorem ok_X6_covers : MOK mX6_covers := ⟨List.mem_filter.mpr ⟨List.mem_of_getElem? (i := 804) rfl, rfl⟩, List.mem_filter.mpr ⟨List.mem_of_getElem? (i := 37) (by decide +kernel), rfl⟩, by decide +kernel⟩
set_option maxRecDepth 100000 in
theorem ok_X6_coversOf : MOK mX6_coversOf := ⟨List.mem_filter.mpr ⟨List.mem_of_getElem? (i := 875) rfl, rfl⟩, List.mem_filter.mpr ⟨List.mem_of_getElem? (i := 37) (by decide +kernel), rfl⟩, by decide +kernel⟩
set_option maxRecDepth 100000 in
theorem ok_X6_cutsOf : MOK mX6_cutsOf := ⟨List.mem_filter.mpr ⟨List.mem_of_getElem? (i := 884) rfl, rfl⟩, List.mem_filter.mpr ⟨List.mem_of_getElem? (i := 37) (by decide +kernel), rfl⟩, by decide +kernel⟩
set_option maxRecDepth 100000 in
theorem ok_X6_dearOf : MOK mX6_dearOf := ⟨List.mem_filter.mpr ⟨List.mem_of_getElem? (i := 904) rfl, rfl⟩, List.mem_filter.mpr ⟨List.mem_of_getElem? (i := 37) (by decide +kernel), rfl⟩, by decide +kernel⟩
set_option maxRecDepth 100000 in
theorem ok_X6_edit : MOK mX6_edit := ⟨List.mem_filter.mpr ⟨List.mem_of_getElem? (i := 892) rfl, rfl⟩, List.mem_filter.mpr ⟨List.mem_of_getElem? (i := 37) (by decide +kernel), rfl⟩, by decide +kernel⟩
set_option maxRecDepth 100000 in
theorem ok_X6_figure : MOK mX6_figure := ⟨List.mem_filter.mpr ⟨List.mem_of_getElem? (i := 772) rfl, rfl⟩, List.mem_filter.mpr ⟨List.mem_of_getElem? (i := 37) (by decide +kernel), rfl⟩, by decide +kernel⟩
set_option maxRecDepth 100000 in
theorem ok_X6_findBest : MOK mX6_findBest := ⟨List.mem_filter.mpr ⟨List.mem_of_getElem? (i := 824) rfl, rfl⟩, List.mem_filter.mpr ⟨List.mem_of_getElem? (i := 37) (by decide +kernel), rfl⟩, by decide +kernel⟩
set_option maxRecDepth 100000 in
theorem ok_X6_findCuts : MOK mX6_findCuts := ⟨List.mem_filter.mpr ⟨List.mem_of_getElem? (i := 835) rfl, rfl⟩, List.mem_filter.mpr ⟨List.mem_of_getElem? (i := 37) (by decide +kernel), rfl⟩, by decide +kernel⟩
set_option maxRecDepth 100000 in
theorem ok_X6_findWay : MOK mX6_findWay := ⟨List.mem_filter.mpr ⟨List.mem_of_getElem? (i := 831) rfl, rfl⟩, List.mem_filter.mpr ⟨List.mem_of_getElem? (i := 37) (by decide +kernel), rfl⟩, by decide +kernel⟩
set_option maxRecDepth 100000 in
theorem ok_X6_forget : MOK mX6_forget := ⟨List.mem_filter.mpr ⟨List.mem_of_getElem? (i := 918) rfl, rfl⟩, List.mem_filter.mpr ⟨List.mem_of_getElem? (i := 37) (by decide +kernel), rfl⟩, by decide +kernel⟩
set_option maxRecDepth 100000 in
theorem ok_X6_in : MOK mX6_in := ⟨List.mem_filter.mpr ⟨List.mem_of_getElem? (i := 731) rfl, rfl⟩, List.mem_filter.mpr ⟨List.mem_of_getElem? (i := 37) (by decide +kernel), rfl⟩, by decide +kernel⟩
set_option maxRecDepth 100000 in
theorem ok_X6_init : MOK mX6_init := ⟨List.mem_filter.mpr ⟨List.mem_of_getElem? (i := 646) rfl, rfl⟩, List.mem_filter.mpr ⟨List.mem_of_getElem? (i := 37) (by decide +kernel), rfl⟩, by decide +kernel⟩
set_option maxRecDepth 100000 in
theorem ok_X6_isBefore : MOK mX6_isBefore := ⟨List.mem_filter.mpr ⟨List.mem_of_getElem? (i := 863) rfl, rfl⟩, List.mem_filter.mpr ⟨List.mem_of_getElem? (i := 37) (by decide +kernel), rfl⟩, by decide +kernel⟩
set_option maxRecDepth 100000 in
theorem ok_X6_isEnded : MOK mX6_isEnded := ⟨List.mem_filter.mpr ⟨List.mem_of_getElem? (i := 776) rfl, rfl⟩, List.mem_filter.mpr ⟨List.mem_of_getElem? (i := 37) (by decide +kernel), rfl⟩, by decide +kernel⟩
set_option maxRecDepth 100000 in
theorem ok_X6_isFigure : MOK mX6_isFigure := ⟨List.mem_filter.mpr ⟨List.mem_of_getElem? (i := 764) rfl, rfl⟩, List.mem_filter.mpr ⟨List.mem_of_getElem? (i := 37) (by decide +kernel), rfl⟩, by decide +kernel⟩
set_option maxRecDepth 100000 in
theorem ok_X6_isLetter : MOK mX6_isLetter := ⟨List.mem_filter.mpr ⟨List.mem_of_getElem? (i := 751) rfl, rfl⟩, List.mem_filter.mpr ⟨List.mem_of_getElem? (i := 37) (by decide +kernel), rfl⟩, by decide +kernel⟩
set_option maxRecDepth 100000 in
theorem ok_X6_isLine : MOK mX6_isLine := ⟨List.mem_filter.mpr ⟨List.mem_of_getElem? (i := 796) rfl, rfl⟩, List.mem_filter.mpr ⟨List.mem_of_getElem? (i := 37) (by decide +kernel), rfl⟩, by decide +kernel⟩
set_option maxRecDepth 100000 in
theorem ok_X6_isReaction : MOK mX6_isReaction := ⟨List.mem_filter.mpr ⟨List.mem_of_getElem? (i := 859) rfl, rfl⟩, List.mem_filter.mpr ⟨List.mem_of_getElem? (i := 37) (by decide +kernel), rfl⟩, by decide +kernel⟩
set_option maxRecDepth 100000 in
theorem ok_X6_isShot : MOK mX6_isShot := ⟨List.mem_filter.mpr ⟨List.mem_of_getElem? (i := 800) rfl, rfl⟩, List.mem_filter.mpr ⟨List.mem_of_getElem? (i := 37) (by decide +kernel), rfl⟩, by decide +kernel⟩
set_option maxRecDepth 100000 in
theorem ok_X6_isSo : MOK mX6_isSo := ⟨List.mem_filter.mpr ⟨List.mem_of_getElem? (i := 926) rfl, rfl⟩, List.mem_filter.mpr ⟨List.mem_of_getElem? (i := 37) (by decide +kernel), rfl⟩, by decide +kernel⟩
set_option maxRecDepth 100000 in
theorem ok_X6_keep : MOK mX6_keep := ⟨List.mem_filter.mpr ⟨List.mem_of_getElem? (i := 930) rfl, rfl⟩, List.mem_filter.mpr ⟨List.mem_of_getElem? (i := 37) (by decide +kernel), rfl⟩, by decide +kernel⟩
set_option maxRecDepth 100000 in
theorem ok_X6_line : MOK mX6_line := ⟨List.mem_filter.mpr ⟨List.mem_of_getElem? (i := 871) rfl, rfl⟩, List.mem_filter.mpr ⟨List.mem_of_getElem? (i := 37) (by decide +kernel), rfl⟩, by decide +kernel⟩
set_option maxRecDepth 100000 in
theorem ok_X6_makes : MOK mX6_makes := ⟨List.mem_filter.mpr ⟨List.mem_of_getElem? (i := 820) rfl, rfl⟩, List.mem_filter.mpr ⟨List.mem_of_getElem? (i := 37) (by decide +kernel), rfl⟩, by decide +kernel⟩
set_option maxRecDepth 100000 in
theorem ok_X6_mayFollow : MOK mX6_mayFollow := ⟨List.mem_filter.mpr ⟨List.mem_of_getElem? (i := 839) rfl, rfl⟩, List.mem_filter.mpr ⟨List.mem_of_getElem? (i := 37) (by decide +kernel), rfl⟩, by decide +kernel⟩
set_option maxRecDepth 100000 in
theorem ok_X6_needed : MOK mX6_needed := ⟨List.mem_filter.mpr ⟨List.mem_of_getElem? (i := 910) rfl, rfl⟩, List.mem_filter.mpr ⟨List.mem_of_getElem? (i := 37) (by decide +kernel), rfl⟩, by decide +kernel⟩
set_option maxRecDepth 100000 in
theorem ok_X6_next : MOK mX6_next := ⟨List.mem_filter.mpr ⟨List.mem_of_getElem? (i := 747) rfl, rfl⟩, List.mem_filter.mpr ⟨List.mem_of_getElem? (i := 37) (by decide +kernel), rfl⟩, by decide +kernel⟩
set_option maxRecDepth 100000 in
theorem ok_X6_note : MOK mX6_note := ⟨List.mem_filter.mpr ⟨List.mem_of_getElem? (i := 788) rfl, rfl⟩, List.mem_filter.mpr ⟨List.mem_of_getElem? (i := 37) (by decide +kernel), rfl⟩, by decide +kernel⟩
set_option maxRecDepth 100000 in
theorem ok_X6_of : MOK mX6_of := ⟨List.mem_filter.mpr ⟨List.mem_of_getElem? (i := 808) rfl, rfl⟩, List.mem_filter.mpr ⟨List.mem_of_getElem? (i := 37) (by decide +kernel), rfl⟩, by decide +kernel⟩
set_option maxRecDepth 100000 in
theorem ok_X6_ones : MOK mX6_ones := ⟨List.mem_filter.mpr ⟨List.mem_of_getElem? (i := 827) rfl, rfl⟩, List.mem_filter.mpr ⟨List.mem_of_getElem? (i := 37) (by decide +kernel), rfl⟩, by decide +kernel⟩
set_option maxRecDepth 100000 in
theorem ok_X6_player : MOK mX6_player := ⟨List.mem_filter.mpr ⟨List.mem_of_getElem? (i := 888) rfl, rfl⟩, List.mem_filter.mpr ⟨List.mem_of_getElem? (i := 37) (by decide +kernel), rfl⟩, by decide +kernel⟩
set_option maxRecDepth 100000 in
theorem ok_X6_puts : MOK mX6_puts := ⟨List.mem_filter.mpr ⟨List.mem_of_getElem? (i := 792) rfl, rfl⟩, List.mem_filter.mpr ⟨List.mem_of_getElem? (i := 37) (by decide +kernel), rfl⟩, by decide +kernel⟩
set_option maxRecDepth 100000 in
theorem ok_X6_readLines : MOK mX6_readLines := ⟨List.mem_filter.mpr ⟨List.mem_of_getElem? (i := 780) rfl, rfl⟩, List.mem_filter.mpr ⟨List.mem_of_getElem? (i := 37) (by decide +kernel), rfl⟩, by decide +kernel⟩
set_option maxRecDepth 100000 in
theorem ok_X6_readPlayers : MOK mX6_readPlayers := ⟨List.mem_filter.mpr ⟨List.mem_of_getElem? (i := 768) rfl, rfl⟩, List.mem_filter.mpr ⟨List.mem_of_getElem? (i := 37) (by decide +kernel), rfl⟩, by decide +kernel⟩
set_option maxRecDepth 100000 in
theorem ok_X6_readShot : MOK mX6_readShot := ⟨List.mem_filter.mpr ⟨List.mem_of_getElem? (i := 784) rfl, rfl⟩, List.mem_filter.mpr ⟨List.mem_of_getElem? (i := 37) (by decide +kernel), rfl⟩, by decide +kernel⟩
set_option maxRecDepth 100000 in
theorem ok_X6_readText : MOK mX6_readText := ⟨List.mem_filter.mpr ⟨List.mem_of_getElem? (i := 743) rfl, rfl⟩, List.mem_filter.mpr ⟨List.mem_of_getElem? (i := 37) (by decide +kernel), rfl⟩, by decide +kernel⟩
set_option maxRecDepth 100000 in
theorem ok_X6_sees : MOK mX6_sees := ⟨List.mem_filter.mpr ⟨List.mem_of_getElem? (i := 914) rfl, rfl⟩, List.mem_filter.mpr ⟨List.mem_of_getElem? (i := 37) (by decide +kernel), rfl⟩, by decide +kernel⟩
set_option maxRecDepth 100000 in
theorem ok_X6_shot : MOK mX6_shot := ⟨List.mem_filter.mpr ⟨List.mem_of_getElem? (i := 879) rfl, rfl⟩, List.mem_filter.mpr ⟨List.mem_of_getElem? (i := 37) (by decide +kernel), rfl⟩, by decide +kernel⟩
set_option maxRecDepth 100000 in
theorem ok_X6_sideOf : MOK mX6_sideOf := ⟨List.mem_filter.mpr ⟨List.mem_of_getElem? (i := 855) rfl, rfl⟩, List.mem_filter.mpr ⟨List.mem_of_getElem? (i := 37) (by decide +kernel), rfl⟩, by decide +kernel⟩
set_option maxRecDepth 100000 in
theorem ok_X6_strikes : MOK mX6_strikes := ⟨List.mem_filter.mpr ⟨List.mem_of_getElem? (i := 816) rfl, rfl⟩, List.mem_filter.mpr ⟨List.mem_of_getElem? (i := 37) (by decide +kernel), rfl⟩, by decide +kernel⟩
set_option maxRecDepth 100000 in
theorem ok_X6_takes : MOK mX6_takes := ⟨List.mem_filter.mpr ⟨List.mem_of_getElem? (i := 812) rfl, rfl⟩, List.mem_filter.mpr ⟨List.mem_of_getElem? (i := 37) (by decide +kernel), rfl⟩, by decide +kernel⟩
set_option maxRecDepth 100000 in
theorem ok_X6_tells : MOK mX6_tells := ⟨List.mem_filter.mpr ⟨List.mem_of_getElem? (i := 739) rfl, rfl⟩, List.mem_filter.mpr ⟨List.mem_of_getElem? (i := 37) (by decide +kernel), rfl⟩, by decide +kernel⟩
set_option maxRecDepth 100000 in
theorem ok_X6_type : MOK mX6_type := ⟨List.mem_filter.mpr ⟨List.mem_of_getElem? (i := 728) rfl, rfl⟩, List.mem_filter.mpr ⟨List.mem_of_getElem? (i := 37) (by decide +kernel), rfl⟩, by decide +kernel⟩
set_option maxRecDepth 100000 in
theorem ok_X6_undo : MOK mX6_undo := ⟨List.mem_filter.mpr ⟨List.mem_of_getElem? (i := 867) rfl, rfl⟩, List.mem_filter.mpr ⟨List.mem_of_getElem? (i := 37) (by decide +kernel), rfl⟩, by decide +kernel⟩
set_option maxRecDepth 100000 in
theorem ok_X6_wayOf : MOK mX6_wayOf := ⟨List.mem_filter.mpr ⟨List.mem_of_getElem? (i := 851) rfl, rfl⟩, List.mem_filter.mpr ⟨List.mem_of_getElem? (i := 37) (by decide +kernel), rfl⟩, by decide +kernel⟩
set_option maxRecDepth 100000 in
theorem ok_X6_which : MOK mX6_which := ⟨List.mem_filter.mpr ⟨List.mem_of_getElem? (i := 922) rfl, rfl⟩, List.mem_filter.mpr ⟨List.mem_of_getElem? (i := 37) (by decide +kernel), rfl⟩, by decide +kernel⟩
set_option maxRecDepth 100000 in
theorem ok_X6_wordFrom : MOK mX6_wordFrom := ⟨List.mem_filter.mpr ⟨List.mem_of_getElem? (i := 755) rfl, rfl⟩, List.mem_filter.mpr ⟨List.mem_of_getElem? (i := 37) (by decide +kernel), rfl⟩, by decide +kernel⟩
set_option maxRecDepth 100000 in
theorem MT_ok : ∀ a, a < 200 → MOK (MT a) := by
  intro a _
  unfold MT
  split
  · exact ok_J0_charAt_5068e
  · exact ok_J0_checkIndex_df160
  · exact ok_J0_coder_7d493
  · exact ok_J0_isLatin1_aae02
  · exact ok_J0_length_8abf5
  · exact ok_J1_charAt_3b067
  · exact ok_J3_checkIndex_8e157
  · exact ok_J6_bitCount_0f7a4
  · exact ok_J6_numberOfTrailingZeros_0f7a4
  · exact ok_J6_signum_0f7a4
  · exact ok_X0_init
  · exact ok_X0_remember
  · exact ok_X0_restore
  · exact ok_X1_cheapestOf
  · exact ok_X1_cheapestSet
  · exact ok_X1_cutsFrom
  · exact ok_X1_dear
  · exact ok_X1_differsFrom
  · exact ok_X1_fewestBehind
  · exact ok_X1_findBest
  · exact ok_X1_followersOf
  · exact ok_X1_giveBestTo
  · exact ok_X1_hasWholeEdit
  · exact ok_X1_init
  · exact ok_X1_neededShots
  · exact ok_X1_planTrial
  · exact ok_X1_study
  · exact ok_X1_takeTrial
  · exact ok_X1_trialIsLower
  · exact ok_X2_dropText
  · exact ok_X2_init
  · exact ok_X2_isWord
  · exact ok_X2_kindAt
  · exact ok_X2_readInto
  · exact ok_X2_readItem
  · exact ok_X2_readLines
  · exact ok_X2_readPlayers
  · exact ok_X2_readShot
  · exact ok_X2_step
  · exact ok_X2_stepToFigure
  · exact ok_X2_stepToStop
  · exact ok_X2_takeLetter
  · exact ok_X3_become
  · exact ok_X3_canBeCut
  · exact ok_X3_coverers
  · exact ok_X3_covers
  · exact ok_X3_cuts
  · exact ok_X3_doubleReactions
  · exact ok_X3_dropShot
  · exact ok_X3_fact
  · exact ok_X3_hasLine
  · exact ok_X3_hasShot
  · exact ok_X3_init
  · exact ok_X3_isCutAhead
  · exact ok_X3_isReaction
  · exact ok_X3_linesWithoutShot
  · exact ok_X3_loseShotInEdit
  · exact ok_X3_near
  · exact ok_X3_partners
  · exact ok_X3_shotsUsed
  · exact ok_X3_side
  · exact ok_X3_startAnew
  · exact ok_X3_tooLike
  · exact ok_X3_wayX
  · exact ok_X3_wayY
  · exact ok_X3_wrongCuts
  · exact ok_X4_dropAll
  · exact ok_X4_fits
  · exact ok_X4_fitting
  · exact ok_X4_init
  · exact ok_X4_look
  · exact ok_X4_note
  · exact ok_X5_back
  · exact ok_X5_best
  · exact ok_X5_cheapest
  · exact ok_X5_clear
  · exact ok_X5_count
  · exact ok_X5_edit
  · exact ok_X5_forget
  · exact ok_X5_init
  · exact ok_X5_keep
  · exact ok_X5_line
  · exact ok_X5_makes
  · exact ok_X5_needed
  · exact ok_X5_player
  · exact ok_X5_puts
  · exact ok_X5_sees
  · exact ok_X5_shot
  · exact ok_X5_strikes
  · exact ok_X5_takes
  · exact ok_X5_tells
  · exact ok_X5_type
  · exact ok_X5_undo
  · exact ok_X5_which
  · exact ok_X6_areNear
  · exact ok_X6_back
  · exact ok_X6_beginRead
  · exact ok_X6_best
  · exact ok_X6_bring
  · exact ok_X6_canCut
  · exact ok_X6_cheapest
  · exact ok_X6_clear
  · exact ok_X6_count
  · exact ok_X6_covers
  · exact ok_X6_coversOf
  · exact ok_X6_cutsOf
  · exact ok_X6_dearOf
  · exact ok_X6_edit
  · exact ok_X6_figure
  · exact ok_X6_findBest
  · exact ok_X6_findCuts
  · exact ok_X6_findWay
  · exact ok_X6_forget
  · exact ok_X6_in
  · exact ok_X6_init
  · exact ok_X6_isBefore
  · exact ok_X6_isEnded
  · exact ok_X6_isFigure
  · exact ok_X6_isLetter
  · exact ok_X6_isLine
  · exact ok_X6_isReaction
  · exact ok_X6_isShot
  · exact ok_X6_isSo
  · exact ok_X6_keep
  · exact ok_X6_line
  · exact ok_X6_makes
  · exact ok_X6_mayFollow
  · exact ok_X6_needed
  · exact ok_X6_next
  · exact ok_X6_note
  · exact ok_X6_of
  · exact ok_X6_ones
  · exact ok_X6_player
  · exact ok_X6_puts
  · exact ok_X6_readLines
  · exact ok_X6_readPlayers
  · exact ok_X6_readShot
  · exact ok_X6_readText
  · exact ok_X6_sees
  · exact ok_X6_shot
  · exact ok_X6_sideOf
  · exact ok_X6_strikes
  · exact ok_X6_takes
  · exact ok_X6_tells
  · exact ok_X6_type
  · exact ok_X6_undo
  · exact ok_X6_wayOf
  · exact ok_X6_which
  · exact ok_X6_wordFrom
  · exact ok_J6_signum_0f7a4
end
section
set_option maxRecDepth 100000 in
theorem ch_J0_charAt_5068e : chkL MT mJ0_charAt_5068e (m_code mJ0_charAt_5068e) = true := by decide +kernel
set_option maxRecDepth 100000 in
theorem ch_J0_checkIndex_df160 : chkL MT mJ0_checkIndex_df160 (m_code mJ0_checkIndex_df160) = true := by decide +kernel
set_option maxRecDepth 100000 in
theorem ch_J0_coder_7d493 : chkL MT mJ0_coder_7d493 (m_code mJ0_coder_7d493) = true := by decide +kernel
set_option maxRecDepth 100000 in
theorem ch_J0_isLatin1_aae02 : chkL MT mJ0_isLatin1_aae02 (m_code mJ0_isLatin1_aae02) = true := by decide +kernel
set_option maxRecDepth 100000 in
theorem ch_J0_length_8abf5 : chkL MT mJ0_length_8abf5 (m_code mJ0_length_8abf5) = true := by decide +kernel
set_option maxRecDepth 100000 in
theorem ch_J1_charAt_3b067 : chkL MT mJ1_charAt_3b067 (m_code mJ1_charAt_3b067) = true := by decide +kernel
set_option maxRecDepth 100000 in
theorem ch_J3_checkIndex_8e157 : chkL MT mJ3_checkIndex_8e157 (m_code mJ3_checkIndex_8e157) = true := by decide +kernel
set_option maxRecDepth 100000 in
theorem ch_J6_bitCount_0f7a4 : chkL MT mJ6_bitCount_0f7a4 (m_code mJ6_bitCount_0f7a4) = true := by decide +kernel
set_option maxRecDepth 100000 in
theorem ch_J6_numberOfTrailingZeros_0f7a4 : chkL MT mJ6_numberOfTrailingZeros_0f7a4 (m_code mJ6_numberOfTrailingZeros_0f7a4) = true := by decide +kernel
set_option maxRecDepth 100000 in
theorem ch_J6_signum_0f7a4 : chkL MT mJ6_signum_0f7a4 (m_code mJ6_signum_0f7a4) = true := by decide +kernel
set_option maxRecDepth 100000 in
theorem ch_X0_init : chkL MT mX0_init (m_code mX0_init) = true := by decide +kernel
set_option maxRecDepth 100000 in
theorem ch_X0_remember : chkL MT mX0_remember (m_code mX0_remember) = true := by decide +kernel
set_option maxRecDepth 100000 in
theorem ch_X0_restore : chkL MT mX0_restore (m_code mX0_restore) = true := by decide +kernel
set_option maxRecDepth 100000 in
theorem ch_X1_cheapestOf : chkL MT mX1_cheapestOf (m_code mX1_cheapestOf) = true := by decide +kernel
set_option maxRecDepth 100000 in
theorem ch_X1_cheapestSet : chkL MT mX1_cheapestSet (m_code mX1_cheapestSet) = true := by decide +kernel
set_option maxRecDepth 100000 in
theorem ch_X1_cutsFrom : chkL MT mX1_cutsFrom (m_code mX1_cutsFrom) = true := by decide +kernel
set_option maxRecDepth 100000 in
theorem ch_X1_dear : chkL MT mX1_dear (m_code mX1_dear) = true := by decide +kernel
set_option maxRecDepth 100000 in
theorem ch_X1_differsFrom : chkL MT mX1_differsFrom (m_code mX1_differsFrom) = true := by decide +kernel
set_option maxRecDepth 100000 in
theorem ch_X1_fewestBehind : chkL MT mX1_fewestBehind (m_code mX1_fewestBehind) = true := by decide +kernel
set_option maxRecDepth 100000 in
theorem ch_X1_findBest : chkL MT mX1_findBest (m_code mX1_findBest) = true := by decide +kernel
set_option maxRecDepth 100000 in
theorem ch_X1_followersOf : chkL MT mX1_followersOf (m_code mX1_followersOf) = true := by decide +kernel
set_option maxRecDepth 100000 in
theorem ch_X1_giveBestTo : chkL MT mX1_giveBestTo (m_code mX1_giveBestTo) = true := by decide +kernel
set_option maxRecDepth 100000 in
theorem ch_X1_hasWholeEdit : chkL MT mX1_hasWholeEdit (m_code mX1_hasWholeEdit) = true := by decide +kernel
set_option maxRecDepth 100000 in
theorem ch_X1_init : chkL MT mX1_init (m_code mX1_init) = true := by decide +kernel
set_option maxRecDepth 100000 in
theorem ch_X1_neededShots : chkL MT mX1_neededShots (m_code mX1_neededShots) = true := by decide +kernel
set_option maxRecDepth 100000 in
theorem ch_X1_planTrial : chkL MT mX1_planTrial (m_code mX1_planTrial) = true := by decide +kernel
set_option maxRecDepth 100000 in
theorem ch_X1_study : chkL MT mX1_study (m_code mX1_study) = true := by decide +kernel
set_option maxRecDepth 100000 in
theorem ch_X1_takeTrial : chkL MT mX1_takeTrial (m_code mX1_takeTrial) = true := by decide +kernel
set_option maxRecDepth 100000 in
theorem ch_X1_trialIsLower : chkL MT mX1_trialIsLower (m_code mX1_trialIsLower) = true := by decide +kernel
set_option maxRecDepth 100000 in
theorem ch_X2_dropText : chkL MT mX2_dropText (m_code mX2_dropText) = true := by decide +kernel
set_option maxRecDepth 100000 in
theorem ch_X2_init : chkL MT mX2_init (m_code mX2_init) = true := by decide +kernel
set_option maxRecDepth 100000 in
theorem ch_X2_isWord : chkL MT mX2_isWord (m_code mX2_isWord) = true := by decide +kernel
set_option maxRecDepth 100000 in
theorem ch_X2_kindAt : chkL MT mX2_kindAt (m_code mX2_kindAt) = true := by decide +kernel
set_option maxRecDepth 100000 in
theorem ch_X2_readInto : chkL MT mX2_readInto (m_code mX2_readInto) = true := by decide +kernel
set_option maxRecDepth 100000 in
theorem ch_X2_readItem : chkL MT mX2_readItem (m_code mX2_readItem) = true := by decide +kernel
set_option maxRecDepth 100000 in
theorem ch_X2_readLines : chkL MT mX2_readLines (m_code mX2_readLines) = true := by decide +kernel
set_option maxRecDepth 100000 in
theorem ch_X2_readPlayers : chkL MT mX2_readPlayers (m_code mX2_readPlayers) = true := by decide +kernel
set_option maxRecDepth 100000 in
theorem ch_X2_readShot : chkL MT mX2_readShot (m_code mX2_readShot) = true := by decide +kernel
set_option maxRecDepth 100000 in
theorem ch_X2_step : chkL MT mX2_step (m_code mX2_step) = true := by decide +kernel
set_option maxRecDepth 100000 in
theorem ch_X2_stepToFigure : chkL MT mX2_stepToFigure (m_code mX2_stepToFigure) = true := by decide +kernel
set_option maxRecDepth 100000 in
theorem ch_X2_stepToStop : chkL MT mX2_stepToStop (m_code mX2_stepToStop) = true := by decide +kernel
set_option maxRecDepth 100000 in
theorem ch_X2_takeLetter : chkL MT mX2_takeLetter (m_code mX2_takeLetter) = true := by decide +kernel
set_option maxRecDepth 100000 in
theorem ch_X3_become : chkL MT mX3_become (m_code mX3_become) = true := by decide +kernel
set_option maxRecDepth 100000 in
theorem ch_X3_canBeCut : chkL MT mX3_canBeCut (m_code mX3_canBeCut) = true := by decide +kernel
set_option maxRecDepth 100000 in
theorem ch_X3_coverers : chkL MT mX3_coverers (m_code mX3_coverers) = true := by decide +kernel
set_option maxRecDepth 100000 in
theorem ch_X3_covers : chkL MT mX3_covers (m_code mX3_covers) = true := by decide +kernel
set_option maxRecDepth 100000 in
theorem ch_X3_cuts : chkL MT mX3_cuts (m_code mX3_cuts) = true := by decide +kernel
set_option maxRecDepth 100000 in
theorem ch_X3_doubleReactions : chkL MT mX3_doubleReactions (m_code mX3_doubleReactions) = true := by decide +kernel
set_option maxRecDepth 100000 in
theorem ch_X3_dropShot : chkL MT mX3_dropShot (m_code mX3_dropShot) = true := by decide +kernel
set_option maxRecDepth 100000 in
theorem ch_X3_fact : chkL MT mX3_fact (m_code mX3_fact) = true := by decide +kernel
set_option maxRecDepth 100000 in
theorem ch_X3_hasLine : chkL MT mX3_hasLine (m_code mX3_hasLine) = true := by decide +kernel
set_option maxRecDepth 100000 in
theorem ch_X3_hasShot : chkL MT mX3_hasShot (m_code mX3_hasShot) = true := by decide +kernel
set_option maxRecDepth 100000 in
theorem ch_X3_init : chkL MT mX3_init (m_code mX3_init) = true := by decide +kernel
set_option maxRecDepth 100000 in
theorem ch_X3_isCutAhead : chkL MT mX3_isCutAhead (m_code mX3_isCutAhead) = true := by decide +kernel
set_option maxRecDepth 100000 in
theorem ch_X3_isReaction : chkL MT mX3_isReaction (m_code mX3_isReaction) = true := by decide +kernel
set_option maxRecDepth 100000 in
theorem ch_X3_linesWithoutShot : chkL MT mX3_linesWithoutShot (m_code mX3_linesWithoutShot) = true := by decide +kernel
set_option maxRecDepth 100000 in
theorem ch_X3_loseShotInEdit : chkL MT mX3_loseShotInEdit (m_code mX3_loseShotInEdit) = true := by decide +kernel
set_option maxRecDepth 100000 in
theorem ch_X3_near : chkL MT mX3_near (m_code mX3_near) = true := by decide +kernel
set_option maxRecDepth 100000 in
theorem ch_X3_partners : chkL MT mX3_partners (m_code mX3_partners) = true := by decide +kernel
set_option maxRecDepth 100000 in
theorem ch_X3_shotsUsed : chkL MT mX3_shotsUsed (m_code mX3_shotsUsed) = true := by decide +kernel
set_option maxRecDepth 100000 in
theorem ch_X3_side : chkL MT mX3_side (m_code mX3_side) = true := by decide +kernel
set_option maxRecDepth 100000 in
theorem ch_X3_startAnew : chkL MT mX3_startAnew (m_code mX3_startAnew) = true := by decide +kernel
set_option maxRecDepth 100000 in
theorem ch_X3_tooLike : chkL MT mX3_tooLike (m_code mX3_tooLike) = true := by decide +kernel
set_option maxRecDepth 100000 in
theorem ch_X3_wayX : chkL MT mX3_wayX (m_code mX3_wayX) = true := by decide +kernel
set_option maxRecDepth 100000 in
theorem ch_X3_wayY : chkL MT mX3_wayY (m_code mX3_wayY) = true := by decide +kernel
set_option maxRecDepth 100000 in
theorem ch_X3_wrongCuts : chkL MT mX3_wrongCuts (m_code mX3_wrongCuts) = true := by decide +kernel
set_option maxRecDepth 100000 in
theorem ch_X4_dropAll : chkL MT mX4_dropAll (m_code mX4_dropAll) = true := by decide +kernel
set_option maxRecDepth 100000 in
theorem ch_X4_fits : chkL MT mX4_fits (m_code mX4_fits) = true := by decide +kernel
set_option maxRecDepth 100000 in
theorem ch_X4_fitting : chkL MT mX4_fitting (m_code mX4_fitting) = true := by decide +kernel
set_option maxRecDepth 100000 in
theorem ch_X4_init : chkL MT mX4_init (m_code mX4_init) = true := by decide +kernel
set_option maxRecDepth 100000 in
theorem ch_X4_look : chkL MT mX4_look (m_code mX4_look) = true := by decide +kernel
set_option maxRecDepth 100000 in
theorem ch_X4_note : chkL MT mX4_note (m_code mX4_note) = true := by decide +kernel
set_option maxRecDepth 100000 in
theorem ch_X5_back : chkL MT mX5_back (m_code mX5_back) = true := by decide +kernel
set_option maxRecDepth 100000 in
theorem ch_X5_best : chkL MT mX5_best (m_code mX5_best) = true := by decide +kernel
set_option maxRecDepth 100000 in
theorem ch_X5_cheapest : chkL MT mX5_cheapest (m_code mX5_cheapest) = true := by decide +kernel
set_option maxRecDepth 100000 in
theorem ch_X5_clear : chkL MT mX5_clear (m_code mX5_clear) = true := by decide +kernel
set_option maxRecDepth 100000 in
theorem ch_X5_count : chkL MT mX5_count (m_code mX5_count) = true := by decide +kernel
set_option maxRecDepth 100000 in
theorem ch_X5_edit : chkL MT mX5_edit (m_code mX5_edit) = true := by decide +kernel
set_option maxRecDepth 100000 in
theorem ch_X5_forget : chkL MT mX5_forget (m_code mX5_forget) = true := by decide +kernel
set_option maxRecDepth 100000 in
theorem ch_X5_init : chkL MT mX5_init (m_code mX5_init) = true := by decide +kernel
set_option maxRecDepth 100000 in
theorem ch_X5_keep : chkL MT mX5_keep (m_code mX5_keep) = true := by decide +kernel
set_option maxRecDepth 100000 in
theorem ch_X5_line : chkL MT mX5_line (m_code mX5_line) = true := by decide +kernel
set_option maxRecDepth 100000 in
theorem ch_X5_makes : chkL MT mX5_makes (m_code mX5_makes) = true := by decide +kernel
set_option maxRecDepth 100000 in
theorem ch_X5_needed : chkL MT mX5_needed (m_code mX5_needed) = true := by decide +kernel
set_option maxRecDepth 100000 in
theorem ch_X5_player : chkL MT mX5_player (m_code mX5_player) = true := by decide +kernel
set_option maxRecDepth 100000 in
theorem ch_X5_puts : chkL MT mX5_puts (m_code mX5_puts) = true := by decide +kernel
set_option maxRecDepth 100000 in
theorem ch_X5_sees : chkL MT mX5_sees (m_code mX5_sees) = true := by decide +kernel
set_option maxRecDepth 100000 in
theorem ch_X5_shot : chkL MT mX5_shot (m_code mX5_shot) = true := by decide +kernel
set_option maxRecDepth 100000 in
theorem ch_X5_strikes : chkL MT mX5_strikes (m_code mX5_strikes) = true := by decide +kernel
set_option maxRecDepth 100000 in
theorem ch_X5_takes : chkL MT mX5_takes (m_code mX5_takes) = true := by decide +kernel
set_option maxRecDepth 100000 in
theorem ch_X5_tells : chkL MT mX5_tells (m_code mX5_tells) = true := by decide +kernel
set_option maxRecDepth 100000 in
theorem ch_X5_type : chkL MT mX5_type (m_code mX5_type) = true := by decide +kernel
set_option maxRecDepth 100000 in
theorem ch_X5_undo : chkL MT mX5_undo (m_code mX5_undo) = true := by decide +kernel
set_option maxRecDepth 100000 in
theorem ch_X5_which : chkL MT mX5_which (m_code mX5_which) = true := by decide +kernel
set_option maxRecDepth 100000 in
theorem ch_X6_areNear : chkL MT mX6_areNear (m_code mX6_areNear) = true := by decide +kernel
set_option maxRecDepth 100000 in
theorem ch_X6_back : chkL MT mX6_back (m_code mX6_back) = true := by decide +kernel
set_option maxRecDepth 100000 in
theorem ch_X6_beginRead : chkL MT mX6_beginRead (m_code mX6_beginRead) = true := by decide +kernel
set_option maxRecDepth 100000 in
theorem ch_X6_best : chkL MT mX6_best (m_code mX6_best) = true := by decide +kernel
set_option maxRecDepth 100000 in
theorem ch_X6_bring : chkL MT mX6_bring (m_code mX6_bring) = true := by decide +kernel
set_option maxRecDepth 100000 in
theorem ch_X6_canCut : chkL MT mX6_canCut (m_code mX6_canCut) = true := by decide +kernel
set_option maxRecDepth 100000 in
theorem ch_X6_cheapest : chkL MT mX6_cheapest (m_code mX6_cheapest) = true := by decide +kernel
set_option maxRecDepth 100000 in
theorem ch_X6_clear : chkL MT mX6_clear (m_code mX6_clear) = true := by decide +kernel
set_option maxRecDepth 100000 in
theorem ch_X6_count : chkL MT mX6_count (m_code mX6_count) = true := by decide +kernel
set_option maxRecDepth 100000 in
theorem ch_X6_covers : chkL MT mX6_covers (m_code mX6_covers) = true := by decide +kernel
set_option maxRecDepth 100000 in
theorem ch_X6_coversOf : chkL MT mX6_coversOf (m_code mX6_coversOf) = true := by decide +kernel
set_option maxRecDepth 100000 in
theorem ch_X6_cutsOf : chkL MT mX6_cutsOf (m_code mX6_cutsOf) = true := by decide +kernel
set_option maxRecDepth 100000 in
theorem ch_X6_dearOf : chkL MT mX6_dearOf (m_code mX6_dearOf) = true := by decide +kernel
set_option maxRecDepth 100000 in
theorem ch_X6_edit : chkL MT mX6_edit (m_code mX6_edit) = true := by decide +kernel
set_option maxRecDepth 100000 in
theorem ch_X6_figure : chkL MT mX6_figure (m_code mX6_figure) = true := by decide +kernel
set_option maxRecDepth 100000 in
theorem ch_X6_findBest : chkL MT mX6_findBest (m_code mX6_findBest) = true := by decide +kernel
set_option maxRecDepth 100000 in
theorem ch_X6_findCuts : chkL MT mX6_findCuts (m_code mX6_findCuts) = true := by decide +kernel
set_option maxRecDepth 100000 in
theorem ch_X6_findWay : chkL MT mX6_findWay (m_code mX6_findWay) = true := by decide +kernel
set_option maxRecDepth 100000 in
theorem ch_X6_forget : chkL MT mX6_forget (m_code mX6_forget) = true := by decide +kernel
set_option maxRecDepth 100000 in
theorem ch_X6_in : chkL MT mX6_in (m_code mX6_in) = true := by decide +kernel
set_option maxRecDepth 100000 in
theorem ch_X6_init : chkL MT mX6_init (m_code mX6_init) = true := by decide +kernel
set_option maxRecDepth 100000 in
theorem ch_X6_isBefore : chkL MT mX6_isBefore (m_code mX6_isBefore) = true := by decide +kernel
set_option maxRecDepth 100000 in
theorem ch_X6_isEnded : chkL MT mX6_isEnded (m_code mX6_isEnded) = true := by decide +kernel
set_option maxRecDepth 100000 in
theorem ch_X6_isFigure : chkL MT mX6_isFigure (m_code mX6_isFigure) = true := by decide +kernel
set_option maxRecDepth 100000 in
theorem ch_X6_isLetter : chkL MT mX6_isLetter (m_code mX6_isLetter) = true := by decide +kernel
set_option maxRecDepth 100000 in
theorem ch_X6_isLine : chkL MT mX6_isLine (m_code mX6_isLine) = true := by decide +kernel
set_option maxRecDepth 100000 in
theorem ch_X6_isReaction : chkL MT mX6_isReaction (m_code mX6_isReaction) = true := by decide +kernel
set_option maxRecDepth 100000 in
theorem ch_X6_isShot : chkL MT mX6_isShot (m_code mX6_isShot) = true := by decide +kernel
set_option maxRecDepth 100000 in
theorem ch_X6_isSo : chkL MT mX6_isSo (m_code mX6_isSo) = true := by decide +kernel
set_option maxRecDepth 100000 in
theorem ch_X6_keep : chkL MT mX6_keep (m_code mX6_keep) = true := by decide +kernel
set_option maxRecDepth 100000 in
theorem ch_X6_line : chkL MT mX6_line (m_code mX6_line) = true := by decide +kernel
set_option maxRecDepth 100000 in
theorem ch_X6_makes : chkL MT mX6_makes (m_code mX6_makes) = true := by decide +kernel
set_option maxRecDepth 100000 in
theorem ch_X6_mayFollow : chkL MT mX6_mayFollow (m_code mX6_mayFollow) = true := by decide +kernel
set_option maxRecDepth 100000 in
theorem ch_X6_needed : chkL MT mX6_needed (m_code mX6_needed) = true := by decide +kernel
set_option maxRecDepth 100000 in
theorem ch_X6_next : chkL MT mX6_next (m_code mX6_next) = true := by decide +kernel
set_option maxRecDepth 100000 in
theorem ch_X6_note : chkL MT mX6_note (m_code mX6_note) = true := by decide +kernel
set_option maxRecDepth 100000 in
theorem ch_X6_of : chkL MT mX6_of (m_code mX6_of) = true := by decide +kernel
set_option maxRecDepth 100000 in
theorem ch_X6_ones : chkL MT mX6_ones (m_code mX6_ones) = true := by decide +kernel
set_option maxRecDepth 100000 in
theorem ch_X6_player : chkL MT mX6_player (m_code mX6_player) = true := by decide +kernel
set_option maxRecDepth 100000 in
theorem ch_X6_puts : chkL MT mX6_puts (m_code mX6_puts) = true := by decide +kernel
set_option maxRecDepth 100000 in
theorem ch_X6_readLines : chkL MT mX6_readLines (m_code mX6_readLines) = true := by decide +kernel
set_option maxRecDepth 100000 in
theorem ch_X6_readPlayers : chkL MT mX6_readPlayers (m_code mX6_readPlayers) = true := by decide +kernel
set_option maxRecDepth 100000 in
theorem ch_X6_readShot : chkL MT mX6_readShot (m_code mX6_readShot) = true := by decide +kernel
set_option maxRecDepth 100000 in
theorem ch_X6_readText : chkL MT mX6_readText (m_code mX6_readText) = true := by decide +kernel
set_option maxRecDepth 100000 in
theorem ch_X6_sees : chkL MT mX6_sees (m_code mX6_sees) = true := by decide +kernel
set_option maxRecDepth 100000 in
theorem ch_X6_shot : chkL MT mX6_shot (m_code mX6_shot) = true := by decide +kernel
set_option maxRecDepth 100000 in
theorem ch_X6_sideOf : chkL MT mX6_sideOf (m_code mX6_sideOf) = true := by decide +kernel
set_option maxRecDepth 100000 in
theorem ch_X6_strikes : chkL MT mX6_strikes (m_code mX6_strikes) = true := by decide +kernel
set_option maxRecDepth 100000 in
theorem ch_X6_takes : chkL MT mX6_takes (m_code mX6_takes) = true := by decide +kernel
set_option maxRecDepth 100000 in
theorem ch_X6_tells : chkL MT mX6_tells (m_code mX6_tells) = true := by decide +kernel
set_option maxRecDepth 100000 in
theorem ch_X6_type : chkL MT mX6_type (m_code mX6_type) = true := by decide +kernel
set_option maxRecDepth 100000 in
theorem ch_X6_undo : chkL MT mX6_undo (m_code mX6_undo) = true := by decide +kernel
set_option maxRecDepth 100000 in
theorem ch_X6_wayOf : chkL MT mX6_wayOf (m_code mX6_wayOf) = true := by decide +kernel
set_option maxRecDepth 100000 in
theorem ch_X6_which : chkL MT mX6_which (m_code mX6_which) = true := by decide +kernel
set_option maxRecDepth 100000 in
theorem ch_X6_wordFrom : chkL MT mX6_wordFrom (m_code mX6_wordFrom) = true := by decide +kernel
set_option maxRecDepth 100000 in
theorem ch_L_law : chkL MT mL_law (m_code mL_law) = true := by decide +kernel
end
section
def Gd (M : Mth) : Prop := chkL MT M (m_code M) = true ∧ plainName (m_y M).cls = true ∧ (m_y M).cls = m_own M
theorem gdJ0_charAt_5068e : Gd mJ0_charAt_5068e := ⟨ch_J0_charAt_5068e, by decide +kernel, by decide +kernel⟩
theorem gdJ0_checkIndex_df160 : Gd mJ0_checkIndex_df160 := ⟨ch_J0_checkIndex_df160, by decide +kernel, by decide +kernel⟩
theorem gdJ0_coder_7d493 : Gd mJ0_coder_7d493 := ⟨ch_J0_coder_7d493, by decide +kernel, by decide +kernel⟩
theorem gdJ0_isLatin1_aae02 : Gd mJ0_isLatin1_aae02 := ⟨ch_J0_isLatin1_aae02, by decide +kernel, by decide +kernel⟩
theorem gdJ0_length_8abf5 : Gd mJ0_length_8abf5 := ⟨ch_J0_length_8abf5, by decide +kernel, by decide +kernel⟩
theorem gdJ1_charAt_3b067 : Gd mJ1_charAt_3b067 := ⟨ch_J1_charAt_3b067, by decide +kernel, by decide +kernel⟩
theorem gdJ3_checkIndex_8e157 : Gd mJ3_checkIndex_8e157 := ⟨ch_J3_checkIndex_8e157, by decide +kernel, by decide +kernel⟩
theorem gdJ6_bitCount_0f7a4 : Gd mJ6_bitCount_0f7a4 := ⟨ch_J6_bitCount_0f7a4, by decide +kernel, by decide +kernel⟩
theorem gdJ6_numberOfTrailingZeros_0f7a4 : Gd mJ6_numberOfTrailingZeros_0f7a4 := ⟨ch_J6_numberOfTrailingZeros_0f7a4, by decide +kernel, by decide +kernel⟩
theorem gdJ6_signum_0f7a4 : Gd mJ6_signum_0f7a4 := ⟨ch_J6_signum_0f7a4, by decide +kernel, by decide +kernel⟩
theorem gdX0_init : Gd mX0_init := ⟨ch_X0_init, by decide +kernel, by decide +kernel⟩
theorem gdX0_remember : Gd mX0_remember := ⟨ch_X0_remember, by decide +kernel, by decide +kernel⟩
theorem gdX0_restore : Gd mX0_restore := ⟨ch_X0_restore, by decide +kernel, by decide +kernel⟩
theorem gdX1_cheapestOf : Gd mX1_cheapestOf := ⟨ch_X1_cheapestOf, by decide +kernel, by decide +kernel⟩
theorem gdX1_cheapestSet : Gd mX1_cheapestSet := ⟨ch_X1_cheapestSet, by decide +kernel, by decide +kernel⟩
theorem gdX1_cutsFrom : Gd mX1_cutsFrom := ⟨ch_X1_cutsFrom, by decide +kernel, by decide +kernel⟩
theorem gdX1_dear : Gd mX1_dear := ⟨ch_X1_dear, by decide +kernel, by decide +kernel⟩
theorem gdX1_differsFrom : Gd mX1_differsFrom := ⟨ch_X1_differsFrom, by decide +kernel, by decide +kernel⟩
theorem gdX1_fewestBehind : Gd mX1_fewestBehind := ⟨ch_X1_fewestBehind, by decide +kernel, by decide +kernel⟩
theorem gdX1_findBest : Gd mX1_findBest := ⟨ch_X1_findBest, by decide +kernel, by decide +kernel⟩
theorem gdX1_followersOf : Gd mX1_followersOf := ⟨ch_X1_followersOf, by decide +kernel, by decide +kernel⟩
theorem gdX1_giveBestTo : Gd mX1_giveBestTo := ⟨ch_X1_giveBestTo, by decide +kernel, by decide +kernel⟩
theorem gdX1_hasWholeEdit : Gd mX1_hasWholeEdit := ⟨ch_X1_hasWholeEdit, by decide +kernel, by decide +kernel⟩
theorem gdX1_init : Gd mX1_init := ⟨ch_X1_init, by decide +kernel, by decide +kernel⟩
theorem gdX1_neededShots : Gd mX1_neededShots := ⟨ch_X1_neededShots, by decide +kernel, by decide +kernel⟩
theorem gdX1_planTrial : Gd mX1_planTrial := ⟨ch_X1_planTrial, by decide +kernel, by decide +kernel⟩
theorem gdX1_study : Gd mX1_study := ⟨ch_X1_study, by decide +kernel, by decide +kernel⟩
theorem gdX1_takeTrial : Gd mX1_takeTrial := ⟨ch_X1_takeTrial, by decide +kernel, by decide +kernel⟩
theorem gdX1_trialIsLower : Gd mX1_trialIsLower := ⟨ch_X1_trialIsLower, by decide +kernel, by decide +kernel⟩
theorem gdX2_dropText : Gd mX2_dropText := ⟨ch_X2_dropText, by decide +kernel, by decide +kernel⟩
theorem gdX2_init : Gd mX2_init := ⟨ch_X2_init, by decide +kernel, by decide +kernel⟩
theorem gdX2_isWord : Gd mX2_isWord := ⟨ch_X2_isWord, by decide +kernel, by decide +kernel⟩
theorem gdX2_kindAt : Gd mX2_kindAt := ⟨ch_X2_kindAt, by decide +kernel, by decide +kernel⟩
theorem gdX2_readInto : Gd mX2_readInto := ⟨ch_X2_readInto, by decide +kernel, by decide +kernel⟩
theorem gdX2_readItem : Gd mX2_readItem := ⟨ch_X2_readItem, by decide +kernel, by decide +kernel⟩
theorem gdX2_readLines : Gd mX2_readLines := ⟨ch_X2_readLines, by decide +kernel, by decide +kernel⟩
theorem gdX2_readPlayers : Gd mX2_readPlayers := ⟨ch_X2_readPlayers, by decide +kernel, by decide +kernel⟩
theorem gdX2_readShot : Gd mX2_readShot := ⟨ch_X2_readShot, by decide +kernel, by decide +kernel⟩
theorem gdX2_step : Gd mX2_step := ⟨ch_X2_step, by decide +kernel, by decide +kernel⟩
theorem gdX2_stepToFigure : Gd mX2_stepToFigure := ⟨ch_X2_stepToFigure, by decide +kernel, by decide +kernel⟩
theorem gdX2_stepToStop : Gd mX2_stepToStop := ⟨ch_X2_stepToStop, by decide +kernel, by decide +kernel⟩
theorem gdX2_takeLetter : Gd mX2_takeLetter := ⟨ch_X2_takeLetter, by decide +kernel, by decide +kernel⟩
theorem gdX3_become : Gd mX3_become := ⟨ch_X3_become, by decide +kernel, by decide +kernel⟩
theorem gdX3_canBeCut : Gd mX3_canBeCut := ⟨ch_X3_canBeCut, by decide +kernel, by decide +kernel⟩
theorem gdX3_coverers : Gd mX3_coverers := ⟨ch_X3_coverers, by decide +kernel, by decide +kernel⟩
theorem gdX3_covers : Gd mX3_covers := ⟨ch_X3_covers, by decide +kernel, by decide +kernel⟩
theorem gdX3_cuts : Gd mX3_cuts := ⟨ch_X3_cuts, by decide +kernel, by decide +kernel⟩
theorem gdX3_doubleReactions : Gd mX3_doubleReactions := ⟨ch_X3_doubleReactions, by decide +kernel, by decide +kernel⟩
theorem gdX3_dropShot : Gd mX3_dropShot := ⟨ch_X3_dropShot, by decide +kernel, by decide +kernel⟩
theorem gdX3_fact : Gd mX3_fact := ⟨ch_X3_fact, by decide +kernel, by decide +kernel⟩
theorem gdX3_hasLine : Gd mX3_hasLine := ⟨ch_X3_hasLine, by decide +kernel, by decide +kernel⟩
theorem gdX3_hasShot : Gd mX3_hasShot := ⟨ch_X3_hasShot, by decide +kernel, by decide +kernel⟩
theorem gdX3_init : Gd mX3_init := ⟨ch_X3_init, by decide +kernel, by decide +kernel⟩
theorem gdX3_isCutAhead : Gd mX3_isCutAhead := ⟨ch_X3_isCutAhead, by decide +kernel, by decide +kernel⟩
theorem gdX3_isReaction : Gd mX3_isReaction := ⟨ch_X3_isReaction, by decide +kernel, by decide +kernel⟩
theorem gdX3_linesWithoutShot : Gd mX3_linesWithoutShot := ⟨ch_X3_linesWithoutShot, by decide +kernel, by decide +kernel⟩
theorem gdX3_loseShotInEdit : Gd mX3_loseShotInEdit := ⟨ch_X3_loseShotInEdit, by decide +kernel, by decide +kernel⟩
theorem gdX3_near : Gd mX3_near := ⟨ch_X3_near, by decide +kernel, by decide +kernel⟩
theorem gdX3_partners : Gd mX3_partners := ⟨ch_X3_partners, by decide +kernel, by decide +kernel⟩
theorem gdX3_shotsUsed : Gd mX3_shotsUsed := ⟨ch_X3_shotsUsed, by decide +kernel, by decide +kernel⟩
theorem gdX3_side : Gd mX3_side := ⟨ch_X3_side, by decide +kernel, by decide +kernel⟩
theorem gdX3_startAnew : Gd mX3_startAnew := ⟨ch_X3_startAnew, by decide +kernel, by decide +kernel⟩
theorem gdX3_tooLike : Gd mX3_tooLike := ⟨ch_X3_tooLike, by decide +kernel, by decide +kernel⟩
theorem gdX3_wayX : Gd mX3_wayX := ⟨ch_X3_wayX, by decide +kernel, by decide +kernel⟩
theorem gdX3_wayY : Gd mX3_wayY := ⟨ch_X3_wayY, by decide +kernel, by decide +kernel⟩
theorem gdX3_wrongCuts : Gd mX3_wrongCuts := ⟨ch_X3_wrongCuts, by decide +kernel, by decide +kernel⟩
theorem gdX4_dropAll : Gd mX4_dropAll := ⟨ch_X4_dropAll, by decide +kernel, by decide +kernel⟩
theorem gdX4_fits : Gd mX4_fits := ⟨ch_X4_fits, by decide +kernel, by decide +kernel⟩
theorem gdX4_fitting : Gd mX4_fitting := ⟨ch_X4_fitting, by decide +kernel, by decide +kernel⟩
theorem gdX4_init : Gd mX4_init := ⟨ch_X4_init, by decide +kernel, by decide +kernel⟩
theorem gdX4_look : Gd mX4_look := ⟨ch_X4_look, by decide +kernel, by decide +kernel⟩
theorem gdX4_note : Gd mX4_note := ⟨ch_X4_note, by decide +kernel, by decide +kernel⟩
theorem gdX5_back : Gd mX5_back := ⟨ch_X5_back, by decide +kernel, by decide +kernel⟩
theorem gdX5_best : Gd mX5_best := ⟨ch_X5_best, by decide +kernel, by decide +kernel⟩
theorem gdX5_cheapest : Gd mX5_cheapest := ⟨ch_X5_cheapest, by decide +kernel, by decide +kernel⟩
theorem gdX5_clear : Gd mX5_clear := ⟨ch_X5_clear, by decide +kernel, by decide +kernel⟩
theorem gdX5_count : Gd mX5_count := ⟨ch_X5_count, by decide +kernel, by decide +kernel⟩
theorem gdX5_edit : Gd mX5_edit := ⟨ch_X5_edit, by decide +kernel, by decide +kernel⟩
theorem gdX5_forget : Gd mX5_forget := ⟨ch_X5_forget, by decide +kernel, by decide +kernel⟩
theorem gdX5_init : Gd mX5_init := ⟨ch_X5_init, by decide +kernel, by decide +kernel⟩
theorem gdX5_keep : Gd mX5_keep := ⟨ch_X5_keep, by decide +kernel, by decide +kernel⟩
theorem gdX5_line : Gd mX5_line := ⟨ch_X5_line, by decide +kernel, by decide +kernel⟩
theorem gdX5_makes : Gd mX5_makes := ⟨ch_X5_makes, by decide +kernel, by decide +kernel⟩
theorem gdX5_needed : Gd mX5_needed := ⟨ch_X5_needed, by decide +kernel, by decide +kernel⟩
theorem gdX5_player : Gd mX5_player := ⟨ch_X5_player, by decide +kernel, by decide +kernel⟩
theorem gdX5_puts : Gd mX5_puts := ⟨ch_X5_puts, by decide +kernel, by decide +kernel⟩
theorem gdX5_sees : Gd mX5_sees := ⟨ch_X5_sees, by decide +kernel, by decide +kernel⟩
theorem gdX5_shot : Gd mX5_shot := ⟨ch_X5_shot, by decide +kernel, by decide +kernel⟩
theorem gdX5_strikes : Gd mX5_strikes := ⟨ch_X5_strikes, by decide +kernel, by decide +kernel⟩
theorem gdX5_takes : Gd mX5_takes := ⟨ch_X5_takes, by decide +kernel, by decide +kernel⟩
theorem gdX5_tells : Gd mX5_tells := ⟨ch_X5_tells, by decide +kernel, by decide +kernel⟩
theorem gdX5_type : Gd mX5_type := ⟨ch_X5_type, by decide +kernel, by decide +kernel⟩
theorem gdX5_undo : Gd mX5_undo := ⟨ch_X5_undo, by decide +kernel, by decide +kernel⟩
theorem gdX5_which : Gd mX5_which := ⟨ch_X5_which, by decide +kernel, by decide +kernel⟩
theorem gdX6_areNear : Gd mX6_areNear := ⟨ch_X6_areNear, by decide +kernel, by decide +kernel⟩
theorem gdX6_back : Gd mX6_back := ⟨ch_X6_back, by decide +kernel, by decide +kernel⟩
theorem gdX6_beginRead : Gd mX6_beginRead := ⟨ch_X6_beginRead, by decide +kernel, by decide +kernel⟩
theorem gdX6_best : Gd mX6_best := ⟨ch_X6_best, by decide +kernel, by decide +kernel⟩
theorem gdX6_bring : Gd mX6_bring := ⟨ch_X6_bring, by decide +kernel, by decide +kernel⟩
theorem gdX6_canCut : Gd mX6_canCut := ⟨ch_X6_canCut, by decide +kernel, by decide +kernel⟩
theorem gdX6_cheapest : Gd mX6_cheapest := ⟨ch_X6_cheapest, by decide +kernel, by decide +kernel⟩
theorem gdX6_clear : Gd mX6_clear := ⟨ch_X6_clear, by decide +kernel, by decide +kernel⟩
theorem gdX6_count : Gd mX6_count := ⟨ch_X6_count, by decide +kernel, by decide +kernel⟩
theorem gdX6_covers : Gd mX6_covers := ⟨ch_X6_covers, by decide +kernel, by decide +kernel⟩
theorem gdX6_coversOf : Gd mX6_coversOf := ⟨ch_X6_coversOf, by decide +kernel, by decide +kernel⟩
theorem gdX6_cutsOf : Gd mX6_cutsOf := ⟨ch_X6_cutsOf, by decide +kernel, by decide +kernel⟩
theorem gdX6_dearOf : Gd mX6_dearOf := ⟨ch_X6_dearOf, by decide +kernel, by decide +kernel⟩
theorem gdX6_edit : Gd mX6_edit := ⟨ch_X6_edit, by decide +kernel, by decide +kernel⟩
theorem gdX6_figure : Gd mX6_figure := ⟨ch_X6_figure, by decide +kernel, by decide +kernel⟩
theorem gdX6_findBest : Gd mX6_findBest := ⟨ch_X6_findBest, by decide +kernel, by decide +kernel⟩
theorem gdX6_findCuts : Gd mX6_findCuts := ⟨ch_X6_findCuts, by decide +kernel, by decide +kernel⟩
theorem gdX6_findWay : Gd mX6_findWay := ⟨ch_X6_findWay, by decide +kernel, by decide +kernel⟩
theorem gdX6_forget : Gd mX6_forget := ⟨ch_X6_forget, by decide +kernel, by decide +kernel⟩
theorem gdX6_in : Gd mX6_in := ⟨ch_X6_in, by decide +kernel, by decide +kernel⟩
theorem gdX6_init : Gd mX6_init := ⟨ch_X6_init, by decide +kernel, by decide +kernel⟩
theorem gdX6_isBefore : Gd mX6_isBefore := ⟨ch_X6_isBefore, by decide +kernel, by decide +kernel⟩
theorem gdX6_isEnded : Gd mX6_isEnded := ⟨ch_X6_isEnded, by decide +kernel, by decide +kernel⟩
theorem gdX6_isFigure : Gd mX6_isFigure := ⟨ch_X6_isFigure, by decide +kernel, by decide +kernel⟩
theorem gdX6_isLetter : Gd mX6_isLetter := ⟨ch_X6_isLetter, by decide +kernel, by decide +kernel⟩
theorem gdX6_isLine : Gd mX6_isLine := ⟨ch_X6_isLine, by decide +kernel, by decide +kernel⟩
theorem gdX6_isReaction : Gd mX6_isReaction := ⟨ch_X6_isReaction, by decide +kernel, by decide +kernel⟩
theorem gdX6_isShot : Gd mX6_isShot := ⟨ch_X6_isShot, by decide +kernel, by decide +kernel⟩
theorem gdX6_isSo : Gd mX6_isSo := ⟨ch_X6_isSo, by decide +kernel, by decide +kernel⟩
theorem gdX6_keep : Gd mX6_keep := ⟨ch_X6_keep, by decide +kernel, by decide +kernel⟩
theorem gdX6_line : Gd mX6_line := ⟨ch_X6_line, by decide +kernel, by decide +kernel⟩
theorem gdX6_makes : Gd mX6_makes := ⟨ch_X6_makes, by decide +kernel, by decide +kernel⟩
theorem gdX6_mayFollow : Gd mX6_mayFollow := ⟨ch_X6_mayFollow, by decide +kernel, by decide +kernel⟩
theorem gdX6_needed : Gd mX6_needed := ⟨ch_X6_needed, by decide +kernel, by decide +kernel⟩
theorem gdX6_next : Gd mX6_next := ⟨ch_X6_next, by decide +kernel, by decide +kernel⟩
theorem gdX6_note : Gd mX6_note := ⟨ch_X6_note, by decide +kernel, by decide +kernel⟩
theorem gdX6_of : Gd mX6_of := ⟨ch_X6_of, by decide +kernel, by decide +kernel⟩
theorem gdX6_ones : Gd mX6_ones := ⟨ch_X6_ones, by decide +kernel, by decide +kernel⟩
theorem gdX6_player : Gd mX6_player := ⟨ch_X6_player, by decide +kernel, by decide +kernel⟩
theorem gdX6_puts : Gd mX6_puts := ⟨ch_X6_puts, by decide +kernel, by decide +kernel⟩
theorem gdX6_readLines : Gd mX6_readLines := ⟨ch_X6_readLines, by decide +kernel, by decide +kernel⟩
theorem gdX6_readPlayers : Gd mX6_readPlayers := ⟨ch_X6_readPlayers, by decide +kernel, by decide +kernel⟩
theorem gdX6_readShot : Gd mX6_readShot := ⟨ch_X6_readShot, by decide +kernel, by decide +kernel⟩
theorem gdX6_readText : Gd mX6_readText := ⟨ch_X6_readText, by decide +kernel, by decide +kernel⟩
theorem gdX6_sees : Gd mX6_sees := ⟨ch_X6_sees, by decide +kernel, by decide +kernel⟩
theorem gdX6_shot : Gd mX6_shot := ⟨ch_X6_shot, by decide +kernel, by decide +kernel⟩
theorem gdX6_sideOf : Gd mX6_sideOf := ⟨ch_X6_sideOf, by decide +kernel, by decide +kernel⟩
theorem gdX6_strikes : Gd mX6_strikes := ⟨ch_X6_strikes, by decide +kernel, by decide +kernel⟩
theorem gdX6_takes : Gd mX6_takes := ⟨ch_X6_takes, by decide +kernel, by decide +kernel⟩
theorem gdX6_tells : Gd mX6_tells := ⟨ch_X6_tells, by decide +kernel, by decide +kernel⟩
theorem gdX6_type : Gd mX6_type := ⟨ch_X6_type, by decide +kernel, by decide +kernel⟩
theorem gdX6_undo : Gd mX6_undo := ⟨ch_X6_undo, by decide +kernel, by decide +kernel⟩
theorem gdX6_wayOf : Gd mX6_wayOf := ⟨ch_X6_wayOf, by decide +kernel, by decide +kernel⟩
theorem gdX6_which : Gd mX6_which := ⟨ch_X6_which, by decide +kernel, by decide +kernel⟩
theorem gdX6_wordFrom : Gd mX6_wordFrom := ⟨ch_X6_wordFrom, by decide +kernel, by decide +kernel⟩
theorem gdL_law : Gd mL_law := ⟨ch_L_law, by decide +kernel, by decide +kernel⟩
theorem acw {g : Glob} {M : Mth} {args : List Value} {h : AH} {Post : Option Value → AH → Prop} (G : Gd M) (k : Nat) (hc : (args.all (fun v => v.category == 1) && Nat.ble args.length (m_nL M)) = true) (hw : wp g MT M Post k (dropTo 0 (m_code M)) (ls0 (m_nL M) args) [] h 0 0) : AC g M args h Post := by
  rw [Bool.and_eq_true] at hc
  exact ac_in G.2.1 G.2.2 hc.1 (Nat.le_of_ble_eq_true hc.2) (aw_wp MT_ok G.1 k hw)
theorem lpw {g : Glob} {M : Mth} {Post : Option Value → AH → Prop} (G : Gd M) (k : Nat) {pc cl sl : Nat} {ls : List (Option Value)} {st : List Value} {h : AH} (hw : wp g MT M Post k (dropTo pc (m_code M)) ls st h cl sl) : AW g M Post cl sl pc ls st h := aw_wp MT_ok G.1 k hw
end
section
/-! ===== the cells of the two objects ===== -/
abbrev Fn : Type := Nat → Int32
abbrev Scn : Type := Fn × Fn × Fn × Fn × Int32 × Int32
abbrev Rd : Type := Fn × Int32 × Int32 × Int32 × Int32 × Int32 × Int32
abbrev Pln : Type := Fn × (Nat → Fn) × (Nat → Fn) × Fn × Fn × Fn × Fn × Int32 × Int32 × Int32 × Int32
abbrev Sgt : Type := Fn × Fn × Int32
abbrev Mdl : Type := Fn × Fn × Fn × Int32 × Fn × Fn × Fn × Int32 × Int32 × Int32 × Int32 × Fn × Fn × Int32 × Int32 × Int32 × Int32 × Fn × Fn × Int32 × Fn × Int32 × Int32
/-- draft, past, images, known, next, reader, planner, sights, kept, model -/
abbrev Oth : Type := Scn × (Nat → Scn) × (Nat → Scn) × Int32 × Int32 × Rd × Pln × Sgt × Fn × Mdl
abbrev St : Type := Scn × Oth
abbrev s_pl (z : Scn) : Fn := z.1
abbrev s_sp (z : Scn) : Fn := z.2.1
abbrev s_ed (z : Scn) : Fn := z.2.2.1
abbrev s_fc (z : Scn) : Fn := z.2.2.2.1
abbrev s_nl (z : Scn) : Int32 := z.2.2.2.2.1
abbrev s_ns (z : Scn) : Int32 := z.2.2.2.2.2
abbrev s_pl' (z : Scn) (v : Fn) : Scn := (v, z.2.1, z.2.2.1, z.2.2.2.1, z.2.2.2.2.1, z.2.2.2.2.2)
abbrev s_sp' (z : Scn) (v : Fn) : Scn := (z.1, v, z.2.2.1, z.2.2.2.1, z.2.2.2.2.1, z.2.2.2.2.2)
abbrev s_ed' (z : Scn) (v : Fn) : Scn := (z.1, z.2.1, v, z.2.2.2.1, z.2.2.2.2.1, z.2.2.2.2.2)
abbrev s_fc' (z : Scn) (v : Fn) : Scn := (z.1, z.2.1, z.2.2.1, v, z.2.2.2.2.1, z.2.2.2.2.2)
abbrev s_nl' (z : Scn) (v : Int32) : Scn := (z.1, z.2.1, z.2.2.1, z.2.2.2.1, v, z.2.2.2.2.2)
abbrev s_ns' (z : Scn) (v : Int32) : Scn := (z.1, z.2.1, z.2.2.1, z.2.2.2.1, z.2.2.2.2.1, v)
abbrev r_t (z : Rd) : Fn := z.1
abbrev r_len (z : Rd) : Int32 := z.2.1
abbrev r_kd (z : Rd) : Int32 := z.2.2.1
abbrev r_st (z : Rd) : Int32 := z.2.2.2.1
abbrev r_en (z : Rd) : Int32 := z.2.2.2.2.1
abbrev r_pt (z : Rd) : Int32 := z.2.2.2.2.2.1
abbrev r_lt (z : Rd) : Int32 := z.2.2.2.2.2.2
abbrev r_t' (z : Rd) (v : Fn) : Rd := (v, z.2.1, z.2.2.1, z.2.2.2.1, z.2.2.2.2.1, z.2.2.2.2.2.1, z.2.2.2.2.2.2)
abbrev r_len' (z : Rd) (v : Int32) : Rd := (z.1, v, z.2.2.1, z.2.2.2.1, z.2.2.2.2.1, z.2.2.2.2.2.1, z.2.2.2.2.2.2)
abbrev r_kd' (z : Rd) (v : Int32) : Rd := (z.1, z.2.1, v, z.2.2.2.1, z.2.2.2.2.1, z.2.2.2.2.2.1, z.2.2.2.2.2.2)
abbrev r_st' (z : Rd) (v : Int32) : Rd := (z.1, z.2.1, z.2.2.1, v, z.2.2.2.2.1, z.2.2.2.2.2.1, z.2.2.2.2.2.2)
abbrev r_en' (z : Rd) (v : Int32) : Rd := (z.1, z.2.1, z.2.2.1, z.2.2.2.1, v, z.2.2.2.2.2.1, z.2.2.2.2.2.2)
abbrev r_pt' (z : Rd) (v : Int32) : Rd := (z.1, z.2.1, z.2.2.1, z.2.2.2.1, z.2.2.2.2.1, v, z.2.2.2.2.2.2)
abbrev r_lt' (z : Rd) (v : Int32) : Rd := (z.1, z.2.1, z.2.2.1, z.2.2.2.1, z.2.2.2.2.1, z.2.2.2.2.2.1, v)
abbrev p_cov (z : Pln) : Fn := z.1
abbrev p_fol (z : Pln) : Nat → Fn := z.2.1
abbrev p_cut (z : Pln) : Nat → Fn := z.2.2.1
abbrev p_par (z : Pln) : Fn := z.2.2.2.1
abbrev p_pri (z : Pln) : Fn := z.2.2.2.2.1
abbrev p_tri (z : Pln) : Fn := z.2.2.2.2.2.1
abbrev p_bes (z : Pln) : Fn := z.2.2.2.2.2.2.1
abbrev p_nl (z : Pln) : Int32 := z.2.2.2.2.2.2.2.1
abbrev p_ns (z : Pln) : Int32 := z.2.2.2.2.2.2.2.2.1
abbrev p_bz (z : Pln) : Int32 := z.2.2.2.2.2.2.2.2.2.1
abbrev p_bc (z : Pln) : Int32 := z.2.2.2.2.2.2.2.2.2.2
abbrev p_cov' (z : Pln) (v : Fn) : Pln := (v, z.2.1, z.2.2.1, z.2.2.2.1, z.2.2.2.2.1, z.2.2.2.2.2.1, z.2.2.2.2.2.2.1, z.2.2.2.2.2.2.2.1, z.2.2.2.2.2.2.2.2.1, z.2.2.2.2.2.2.2.2.2.1, z.2.2.2.2.2.2.2.2.2.2)
abbrev p_fol' (z : Pln) (v : Nat → Fn) : Pln := (z.1, v, z.2.2.1, z.2.2.2.1, z.2.2.2.2.1, z.2.2.2.2.2.1, z.2.2.2.2.2.2.1, z.2.2.2.2.2.2.2.1, z.2.2.2.2.2.2.2.2.1, z.2.2.2.2.2.2.2.2.2.1, z.2.2.2.2.2.2.2.2.2.2)
abbrev p_cut' (z : Pln) (v : Nat → Fn) : Pln := (z.1, z.2.1, v, z.2.2.2.1, z.2.2.2.2.1, z.2.2.2.2.2.1, z.2.2.2.2.2.2.1, z.2.2.2.2.2.2.2.1, z.2.2.2.2.2.2.2.2.1, z.2.2.2.2.2.2.2.2.2.1, z.2.2.2.2.2.2.2.2.2.2)
abbrev p_par' (z : Pln) (v : Fn) : Pln := (z.1, z.2.1, z.2.2.1, v, z.2.2.2.2.1, z.2.2.2.2.2.1, z.2.2.2.2.2.2.1, z.2.2.2.2.2.2.2.1, z.2.2.2.2.2.2.2.2.1, z.2.2.2.2.2.2.2.2.2.1, z.2.2.2.2.2.2.2.2.2.2)
abbrev p_pri' (z : Pln) (v : Fn) : Pln := (z.1, z.2.1, z.2.2.1, z.2.2.2.1, v, z.2.2.2.2.2.1, z.2.2.2.2.2.2.1, z.2.2.2.2.2.2.2.1, z.2.2.2.2.2.2.2.2.1, z.2.2.2.2.2.2.2.2.2.1, z.2.2.2.2.2.2.2.2.2.2)
abbrev p_tri' (z : Pln) (v : Fn) : Pln := (z.1, z.2.1, z.2.2.1, z.2.2.2.1, z.2.2.2.2.1, v, z.2.2.2.2.2.2.1, z.2.2.2.2.2.2.2.1, z.2.2.2.2.2.2.2.2.1, z.2.2.2.2.2.2.2.2.2.1, z.2.2.2.2.2.2.2.2.2.2)
abbrev p_bes' (z : Pln) (v : Fn) : Pln := (z.1, z.2.1, z.2.2.1, z.2.2.2.1, z.2.2.2.2.1, z.2.2.2.2.2.1, v, z.2.2.2.2.2.2.2.1, z.2.2.2.2.2.2.2.2.1, z.2.2.2.2.2.2.2.2.2.1, z.2.2.2.2.2.2.2.2.2.2)
abbrev p_nl' (z : Pln) (v : Int32) : Pln := (z.1, z.2.1, z.2.2.1, z.2.2.2.1, z.2.2.2.2.1, z.2.2.2.2.2.1, z.2.2.2.2.2.2.1, v, z.2.2.2.2.2.2.2.2.1, z.2.2.2.2.2.2.2.2.2.1, z.2.2.2.2.2.2.2.2.2.2)
abbrev p_ns' (z : Pln) (v : Int32) : Pln := (z.1, z.2.1, z.2.2.1, z.2.2.2.1, z.2.2.2.2.1, z.2.2.2.2.2.1, z.2.2.2.2.2.2.1, z.2.2.2.2.2.2.2.1, v, z.2.2.2.2.2.2.2.2.2.1, z.2.2.2.2.2.2.2.2.2.2)
abbrev p_bz' (z : Pln) (v : Int32) : Pln := (z.1, z.2.1, z.2.2.1, z.2.2.2.1, z.2.2.2.2.1, z.2.2.2.2.2.1, z.2.2.2.2.2.2.1, z.2.2.2.2.2.2.2.1, z.2.2.2.2.2.2.2.2.1, v, z.2.2.2.2.2.2.2.2.2.2)
abbrev p_bc' (z : Pln) (v : Int32) : Pln := (z.1, z.2.1, z.2.2.1, z.2.2.2.1, z.2.2.2.2.1, z.2.2.2.2.2.1, z.2.2.2.2.2.2.1, z.2.2.2.2.2.2.2.1, z.2.2.2.2.2.2.2.2.1, z.2.2.2.2.2.2.2.2.2.1, v)
abbrev q_wh (z : Sgt) : Fn := z.1
abbrev q_nu (z : Sgt) : Fn := z.2.1
abbrev q_sn (z : Sgt) : Int32 := z.2.2
abbrev q_wh' (z : Sgt) (v : Fn) : Sgt := (v, z.2.1, z.2.2)
abbrev q_nu' (z : Sgt) (v : Fn) : Sgt := (z.1, v, z.2.2)
abbrev q_sn' (z : Sgt) (v : Int32) : Sgt := (z.1, z.2.1, v)
abbrev z_now (z : Mdl) : Fn := z.1
abbrev z_rd (z : Mdl) : Fn := z.2.1
abbrev z_past (z : Mdl) : Fn := z.2.2.1
abbrev z_deeds (z : Mdl) : Int32 := z.2.2.2.1
abbrev z_img (z : Mdl) : Fn := z.2.2.2.2.1
abbrev z_kept (z : Mdl) : Fn := z.2.2.2.2.2.1
abbrev z_text (z : Mdl) : Fn := z.2.2.2.2.2.2.1
abbrev z_let (z : Mdl) : Int32 := z.2.2.2.2.2.2.2.1
abbrev z_at (z : Mdl) : Int32 := z.2.2.2.2.2.2.2.2.1
abbrev z_tok (z : Mdl) : Int32 := z.2.2.2.2.2.2.2.2.2.1
abbrev z_tat (z : Mdl) : Int32 := z.2.2.2.2.2.2.2.2.2.2.1
abbrev z_sw (z : Mdl) : Fn := z.2.2.2.2.2.2.2.2.2.2.2.1
abbrev z_si (z : Mdl) : Fn := z.2.2.2.2.2.2.2.2.2.2.2.2.1
abbrev z_seen (z : Mdl) : Int32 := z.2.2.2.2.2.2.2.2.2.2.2.2.2.1
abbrev z_aP (z : Mdl) : Int32 := z.2.2.2.2.2.2.2.2.2.2.2.2.2.2.1
abbrev z_aL (z : Mdl) : Int32 := z.2.2.2.2.2.2.2.2.2.2.2.2.2.2.2.1
abbrev z_items (z : Mdl) : Int32 := z.2.2.2.2.2.2.2.2.2.2.2.2.2.2.2.2.1
abbrev z_cuts (z : Mdl) : Fn := z.2.2.2.2.2.2.2.2.2.2.2.2.2.2.2.2.2.1
abbrev z_way (z : Mdl) : Fn := z.2.2.2.2.2.2.2.2.2.2.2.2.2.2.2.2.2.2.1
abbrev z_wc (z : Mdl) : Int32 := z.2.2.2.2.2.2.2.2.2.2.2.2.2.2.2.2.2.2.2.1
abbrev z_best (z : Mdl) : Fn := z.2.2.2.2.2.2.2.2.2.2.2.2.2.2.2.2.2.2.2.2.1
abbrev z_bc (z : Mdl) : Int32 := z.2.2.2.2.2.2.2.2.2.2.2.2.2.2.2.2.2.2.2.2.2.1
abbrev z_bs (z : Mdl) : Int32 := z.2.2.2.2.2.2.2.2.2.2.2.2.2.2.2.2.2.2.2.2.2.2
abbrev z_now' (z : Mdl) (v : Fn) : Mdl := (v, z.2.1, z.2.2.1, z.2.2.2.1, z.2.2.2.2.1, z.2.2.2.2.2.1, z.2.2.2.2.2.2.1, z.2.2.2.2.2.2.2.1, z.2.2.2.2.2.2.2.2.1, z.2.2.2.2.2.2.2.2.2.1, z.2.2.2.2.2.2.2.2.2.2.1, z.2.2.2.2.2.2.2.2.2.2.2.1, z.2.2.2.2.2.2.2.2.2.2.2.2.1, z.2.2.2.2.2.2.2.2.2.2.2.2.2.1, z.2.2.2.2.2.2.2.2.2.2.2.2.2.2.1, z.2.2.2.2.2.2.2.2.2.2.2.2.2.2.2.1, z.2.2.2.2.2.2.2.2.2.2.2.2.2.2.2.2.1, z.2.2.2.2.2.2.2.2.2.2.2.2.2.2.2.2.2.1, z.2.2.2.2.2.2.2.2.2.2.2.2.2.2.2.2.2.2.1, z.2.2.2.2.2.2.2.2.2.2.2.2.2.2.2.2.2.2.2.1, z.2.2.2.2.2.2.2.2.2.2.2.2.2.2.2.2.2.2.2.2.1, z.2.2.2.2.2.2.2.2.2.2.2.2.2.2.2.2.2.2.2.2.2.1, z.2.2.2.2.2.2.2.2.2.2.2.2.2.2.2.2.2.2.2.2.2.2)
abbrev z_rd' (z : Mdl) (v : Fn) : Mdl := (z.1, v, z.2.2.1, z.2.2.2.1, z.2.2.2.2.1, z.2.2.2.2.2.1, z.2.2.2.2.2.2.1, z.2.2.2.2.2.2.2.1, z.2.2.2.2.2.2.2.2.1, z.2.2.2.2.2.2.2.2.2.1, z.2.2.2.2.2.2.2.2.2.2.1, z.2.2.2.2.2.2.2.2.2.2.2.1, z.2.2.2.2.2.2.2.2.2.2.2.2.1, z.2.2.2.2.2.2.2.2.2.2.2.2.2.1, z.2.2.2.2.2.2.2.2.2.2.2.2.2.2.1, z.2.2.2.2.2.2.2.2.2.2.2.2.2.2.2.1, z.2.2.2.2.2.2.2.2.2.2.2.2.2.2.2.2.1, z.2.2.2.2.2.2.2.2.2.2.2.2.2.2.2.2.2.1, z.2.2.2.2.2.2.2.2.2.2.2.2.2.2.2.2.2.2.1, z.2.2.2.2.2.2.2.2.2.2.2.2.2.2.2.2.2.2.2.1, z.2.2.2.2.2.2.2.2.2.2.2.2.2.2.2.2.2.2.2.2.1, z.2.2.2.2.2.2.2.2.2.2.2.2.2.2.2.2.2.2.2.2.2.1, z.2.2.2.2.2.2.2.2.2.2.2.2.2.2.2.2.2.2.2.2.2.2)
abbrev z_past' (z : Mdl) (v : Fn) : Mdl := (z.1, z.2.1, v, z.2.2.2.1, z.2.2.2.2.1, z.2.2.2.2.2.1, z.2.2.2.2.2.2.1, z.2.2.2.2.2.2.2.1, z.2.2.2.2.2.2.2.2.1, z.2.2.2.2.2.2.2.2.2.1, z.2.2.2.2.2.2.2.2.2.2.1, z.2.2.2.2.2.2.2.2.2.2.2.1, z.2.2.2.2.2.2.2.2.2.2.2.2.1, z.2.2.2.2.2.2.2.2.2.2.2.2.2.1, z.2.2.2.2.2.2.2.2.2.2.2.2.2.2.1, z.2.2.2.2.2.2.2.2.2.2.2.2.2.2.2.1, z.2.2.2.2.2.2.2.2.2.2.2.2.2.2.2.2.1, z.2.2.2.2.2.2.2.2.2.2.2.2.2.2.2.2.2.1, z.2.2.2.2.2.2.2.2.2.2.2.2.2.2.2.2.2.2.1, z.2.2.2.2.2.2.2.2.2.2.2.2.2.2.2.2.2.2.2.1, z.2.2.2.2.2.2.2.2.2.2.2.2.2.2.2.2.2.2.2.2.1, z.2.2.2.2.2.2.2.2.2.2.2.2.2.2.2.2.2.2.2.2.2.1, z.2.2.2.2.2.2.2.2.2.2.2.2.2.2.2.2.2.2.2.2.2.2)
abbrev z_deeds' (z : Mdl) (v : Int32) : Mdl := (z.1, z.2.1, z.2.2.1, v, z.2.2.2.2.1, z.2.2.2.2.2.1, z.2.2.2.2.2.2.1, z.2.2.2.2.2.2.2.1, z.2.2.2.2.2.2.2.2.1, z.2.2.2.2.2.2.2.2.2.1, z.2.2.2.2.2.2.2.2.2.2.1, z.2.2.2.2.2.2.2.2.2.2.2.1, z.2.2.2.2.2.2.2.2.2.2.2.2.1, z.2.2.2.2.2.2.2.2.2.2.2.2.2.1, z.2.2.2.2.2.2.2.2.2.2.2.2.2.2.1, z.2.2.2.2.2.2.2.2.2.2.2.2.2.2.2.1, z.2.2.2.2.2.2.2.2.2.2.2.2.2.2.2.2.1, z.2.2.2.2.2.2.2.2.2.2.2.2.2.2.2.2.2.1, z.2.2.2.2.2.2.2.2.2.2.2.2.2.2.2.2.2.2.1, z.2.2.2.2.2.2.2.2.2.2.2.2.2.2.2.2.2.2.2.1, z.2.2.2.2.2.2.2.2.2.2.2.2.2.2.2.2.2.2.2.2.1, z.2.2.2.2.2.2.2.2.2.2.2.2.2.2.2.2.2.2.2.2.2.1, z.2.2.2.2.2.2.2.2.2.2.2.2.2.2.2.2.2.2.2.2.2.2)
abbrev z_img' (z : Mdl) (v : Fn) : Mdl := (z.1, z.2.1, z.2.2.1, z.2.2.2.1, v, z.2.2.2.2.2.1, z.2.2.2.2.2.2.1, z.2.2.2.2.2.2.2.1, z.2.2.2.2.2.2.2.2.1, z.2.2.2.2.2.2.2.2.2.1, z.2.2.2.2.2.2.2.2.2.2.1, z.2.2.2.2.2.2.2.2.2.2.2.1, z.2.2.2.2.2.2.2.2.2.2.2.2.1, z.2.2.2.2.2.2.2.2.2.2.2.2.2.1, z.2.2.2.2.2.2.2.2.2.2.2.2.2.2.1, z.2.2.2.2.2.2.2.2.2.2.2.2.2.2.2.1, z.2.2.2.2.2.2.2.2.2.2.2.2.2.2.2.2.1, z.2.2.2.2.2.2.2.2.2.2.2.2.2.2.2.2.2.1, z.2.2.2.2.2.2.2.2.2.2.2.2.2.2.2.2.2.2.1, z.2.2.2.2.2.2.2.2.2.2.2.2.2.2.2.2.2.2.2.1, z.2.2.2.2.2.2.2.2.2.2.2.2.2.2.2.2.2.2.2.2.1, z.2.2.2.2.2.2.2.2.2.2.2.2.2.2.2.2.2.2.2.2.2.1, z.2.2.2.2.2.2.2.2.2.2.2.2.2.2.2.2.2.2.2.2.2.2)
abbrev z_kept' (z : Mdl) (v : Fn) : Mdl := (z.1, z.2.1, z.2.2.1, z.2.2.2.1, z.2.2.2.2.1, v, z.2.2.2.2.2.2.1, z.2.2.2.2.2.2.2.1, z.2.2.2.2.2.2.2.2.1, z.2.2.2.2.2.2.2.2.2.1, z.2.2.2.2.2.2.2.2.2.2.1, z.2.2.2.2.2.2.2.2.2.2.2.1, z.2.2.2.2.2.2.2.2.2.2.2.2.1, z.2.2.2.2.2.2.2.2.2.2.2.2.2.1, z.2.2.2.2.2.2.2.2.2.2.2.2.2.2.1, z.2.2.2.2.2.2.2.2.2.2.2.2.2.2.2.1, z.2.2.2.2.2.2.2.2.2.2.2.2.2.2.2.2.1, z.2.2.2.2.2.2.2.2.2.2.2.2.2.2.2.2.2.1, z.2.2.2.2.2.2.2.2.2.2.2.2.2.2.2.2.2.2.1, z.2.2.2.2.2.2.2.2.2.2.2.2.2.2.2.2.2.2.2.1, z.2.2.2.2.2.2.2.2.2.2.2.2.2.2.2.2.2.2.2.2.1, z.2.2.2.2.2.2.2.2.2.2.2.2.2.2.2.2.2.2.2.2.2.1, z.2.2.2.2.2.2.2.2.2.2.2.2.2.2.2.2.2.2.2.2.2.2)
abbrev z_text' (z : Mdl) (v : Fn) : Mdl := (z.1, z.2.1, z.2.2.1, z.2.2.2.1, z.2.2.2.2.1, z.2.2.2.2.2.1, v, z.2.2.2.2.2.2.2.1, z.2.2.2.2.2.2.2.2.1, z.2.2.2.2.2.2.2.2.2.1, z.2.2.2.2.2.2.2.2.2.2.1, z.2.2.2.2.2.2.2.2.2.2.2.1, z.2.2.2.2.2.2.2.2.2.2.2.2.1, z.2.2.2.2.2.2.2.2.2.2.2.2.2.1, z.2.2.2.2.2.2.2.2.2.2.2.2.2.2.1, z.2.2.2.2.2.2.2.2.2.2.2.2.2.2.2.1, z.2.2.2.2.2.2.2.2.2.2.2.2.2.2.2.2.1, z.2.2.2.2.2.2.2.2.2.2.2.2.2.2.2.2.2.1, z.2.2.2.2.2.2.2.2.2.2.2.2.2.2.2.2.2.2.1, z.2.2.2.2.2.2.2.2.2.2.2.2.2.2.2.2.2.2.2.1, z.2.2.2.2.2.2.2.2.2.2.2.2.2.2.2.2.2.2.2.2.1, z.2.2.2.2.2.2.2.2.2.2.2.2.2.2.2.2.2.2.2.2.2.1, z.2.2.2.2.2.2.2.2.2.2.2.2.2.2.2.2.2.2.2.2.2.2)
abbrev z_let' (z : Mdl) (v : Int32) : Mdl := (z.1, z.2.1, z.2.2.1, z.2.2.2.1, z.2.2.2.2.1, z.2.2.2.2.2.1, z.2.2.2.2.2.2.1, v, z.2.2.2.2.2.2.2.2.1, z.2.2.2.2.2.2.2.2.2.1, z.2.2.2.2.2.2.2.2.2.2.1, z.2.2.2.2.2.2.2.2.2.2.2.1, z.2.2.2.2.2.2.2.2.2.2.2.2.1, z.2.2.2.2.2.2.2.2.2.2.2.2.2.1, z.2.2.2.2.2.2.2.2.2.2.2.2.2.2.1, z.2.2.2.2.2.2.2.2.2.2.2.2.2.2.2.1, z.2.2.2.2.2.2.2.2.2.2.2.2.2.2.2.2.1, z.2.2.2.2.2.2.2.2.2.2.2.2.2.2.2.2.2.1, z.2.2.2.2.2.2.2.2.2.2.2.2.2.2.2.2.2.2.1, z.2.2.2.2.2.2.2.2.2.2.2.2.2.2.2.2.2.2.2.1, z.2.2.2.2.2.2.2.2.2.2.2.2.2.2.2.2.2.2.2.2.1, z.2.2.2.2.2.2.2.2.2.2.2.2.2.2.2.2.2.2.2.2.2.1, z.2.2.2.2.2.2.2.2.2.2.2.2.2.2.2.2.2.2.2.2.2.2)
abbrev z_at' (z : Mdl) (v : Int32) : Mdl := (z.1, z.2.1, z.2.2.1, z.2.2.2.1, z.2.2.2.2.1, z.2.2.2.2.2.1, z.2.2.2.2.2.2.1, z.2.2.2.2.2.2.2.1, v, z.2.2.2.2.2.2.2.2.2.1, z.2.2.2.2.2.2.2.2.2.2.1, z.2.2.2.2.2.2.2.2.2.2.2.1, z.2.2.2.2.2.2.2.2.2.2.2.2.1, z.2.2.2.2.2.2.2.2.2.2.2.2.2.1, z.2.2.2.2.2.2.2.2.2.2.2.2.2.2.1, z.2.2.2.2.2.2.2.2.2.2.2.2.2.2.2.1, z.2.2.2.2.2.2.2.2.2.2.2.2.2.2.2.2.1, z.2.2.2.2.2.2.2.2.2.2.2.2.2.2.2.2.2.1, z.2.2.2.2.2.2.2.2.2.2.2.2.2.2.2.2.2.2.1, z.2.2.2.2.2.2.2.2.2.2.2.2.2.2.2.2.2.2.2.1, z.2.2.2.2.2.2.2.2.2.2.2.2.2.2.2.2.2.2.2.2.1, z.2.2.2.2.2.2.2.2.2.2.2.2.2.2.2.2.2.2.2.2.2.1, z.2.2.2.2.2.2.2.2.2.2.2.2.2.2.2.2.2.2.2.2.2.2)
abbrev z_tok' (z : Mdl) (v : Int32) : Mdl := (z.1, z.2.1, z.2.2.1, z.2.2.2.1, z.2.2.2.2.1, z.2.2.2.2.2.1, z.2.2.2.2.2.2.1, z.2.2.2.2.2.2.2.1, z.2.2.2.2.2.2.2.2.1, v, z.2.2.2.2.2.2.2.2.2.2.1, z.2.2.2.2.2.2.2.2.2.2.2.1, z.2.2.2.2.2.2.2.2.2.2.2.2.1, z.2.2.2.2.2.2.2.2.2.2.2.2.2.1, z.2.2.2.2.2.2.2.2.2.2.2.2.2.2.1, z.2.2.2.2.2.2.2.2.2.2.2.2.2.2.2.1, z.2.2.2.2.2.2.2.2.2.2.2.2.2.2.2.2.1, z.2.2.2.2.2.2.2.2.2.2.2.2.2.2.2.2.2.1, z.2.2.2.2.2.2.2.2.2.2.2.2.2.2.2.2.2.2.1, z.2.2.2.2.2.2.2.2.2.2.2.2.2.2.2.2.2.2.2.1, z.2.2.2.2.2.2.2.2.2.2.2.2.2.2.2.2.2.2.2.2.1, z.2.2.2.2.2.2.2.2.2.2.2.2.2.2.2.2.2.2.2.2.2.1, z.2.2.2.2.2.2.2.2.2.2.2.2.2.2.2.2.2.2.2.2.2.2)
abbrev z_tat' (z : Mdl) (v : Int32) : Mdl := (z.1, z.2.1, z.2.2.1, z.2.2.2.1, z.2.2.2.2.1, z.2.2.2.2.2.1, z.2.2.2.2.2.2.1, z.2.2.2.2.2.2.2.1, z.2.2.2.2.2.2.2.2.1, z.2.2.2.2.2.2.2.2.2.1, v, z.2.2.2.2.2.2.2.2.2.2.2.1, z.2.2.2.2.2.2.2.2.2.2.2.2.1, z.2.2.2.2.2.2.2.2.2.2.2.2.2.1, z.2.2.2.2.2.2.2.2.2.2.2.2.2.2.1, z.2.2.2.2.2.2.2.2.2.2.2.2.2.2.2.1, z.2.2.2.2.2.2.2.2.2.2.2.2.2.2.2.2.1, z.2.2.2.2.2.2.2.2.2.2.2.2.2.2.2.2.2.1, z.2.2.2.2.2.2.2.2.2.2.2.2.2.2.2.2.2.2.1, z.2.2.2.2.2.2.2.2.2.2.2.2.2.2.2.2.2.2.2.1, z.2.2.2.2.2.2.2.2.2.2.2.2.2.2.2.2.2.2.2.2.1, z.2.2.2.2.2.2.2.2.2.2.2.2.2.2.2.2.2.2.2.2.2.1, z.2.2.2.2.2.2.2.2.2.2.2.2.2.2.2.2.2.2.2.2.2.2)
abbrev z_sw' (z : Mdl) (v : Fn) : Mdl := (z.1, z.2.1, z.2.2.1, z.2.2.2.1, z.2.2.2.2.1, z.2.2.2.2.2.1, z.2.2.2.2.2.2.1, z.2.2.2.2.2.2.2.1, z.2.2.2.2.2.2.2.2.1, z.2.2.2.2.2.2.2.2.2.1, z.2.2.2.2.2.2.2.2.2.2.1, v, z.2.2.2.2.2.2.2.2.2.2.2.2.1, z.2.2.2.2.2.2.2.2.2.2.2.2.2.1, z.2.2.2.2.2.2.2.2.2.2.2.2.2.2.1, z.2.2.2.2.2.2.2.2.2.2.2.2.2.2.2.1, z.2.2.2.2.2.2.2.2.2.2.2.2.2.2.2.2.1, z.2.2.2.2.2.2.2.2.2.2.2.2.2.2.2.2.2.1, z.2.2.2.2.2.2.2.2.2.2.2.2.2.2.2.2.2.2.1, z.2.2.2.2.2.2.2.2.2.2.2.2.2.2.2.2.2.2.2.1, z.2.2.2.2.2.2.2.2.2.2.2.2.2.2.2.2.2.2.2.2.1, z.2.2.2.2.2.2.2.2.2.2.2.2.2.2.2.2.2.2.2.2.2.1, z.2.2.2.2.2.2.2.2.2.2.2.2.2.2.2.2.2.2.2.2.2.2)
abbrev z_si' (z : Mdl) (v : Fn) : Mdl := (z.1, z.2.1, z.2.2.1, z.2.2.2.1, z.2.2.2.2.1, z.2.2.2.2.2.1, z.2.2.2.2.2.2.1, z.2.2.2.2.2.2.2.1, z.2.2.2.2.2.2.2.2.1, z.2.2.2.2.2.2.2.2.2.1, z.2.2.2.2.2.2.2.2.2.2.1, z.2.2.2.2.2.2.2.2.2.2.2.1, v, z.2.2.2.2.2.2.2.2.2.2.2.2.2.1, z.2.2.2.2.2.2.2.2.2.2.2.2.2.2.1, z.2.2.2.2.2.2.2.2.2.2.2.2.2.2.2.1, z.2.2.2.2.2.2.2.2.2.2.2.2.2.2.2.2.1, z.2.2.2.2.2.2.2.2.2.2.2.2.2.2.2.2.2.1, z.2.2.2.2.2.2.2.2.2.2.2.2.2.2.2.2.2.2.1, z.2.2.2.2.2.2.2.2.2.2.2.2.2.2.2.2.2.2.2.1, z.2.2.2.2.2.2.2.2.2.2.2.2.2.2.2.2.2.2.2.2.1, z.2.2.2.2.2.2.2.2.2.2.2.2.2.2.2.2.2.2.2.2.2.1, z.2.2.2.2.2.2.2.2.2.2.2.2.2.2.2.2.2.2.2.2.2.2)
abbrev z_seen' (z : Mdl) (v : Int32) : Mdl := (z.1, z.2.1, z.2.2.1, z.2.2.2.1, z.2.2.2.2.1, z.2.2.2.2.2.1, z.2.2.2.2.2.2.1, z.2.2.2.2.2.2.2.1, z.2.2.2.2.2.2.2.2.1, z.2.2.2.2.2.2.2.2.2.1, z.2.2.2.2.2.2.2.2.2.2.1, z.2.2.2.2.2.2.2.2.2.2.2.1, z.2.2.2.2.2.2.2.2.2.2.2.2.1, v, z.2.2.2.2.2.2.2.2.2.2.2.2.2.2.1, z.2.2.2.2.2.2.2.2.2.2.2.2.2.2.2.1, z.2.2.2.2.2.2.2.2.2.2.2.2.2.2.2.2.1, z.2.2.2.2.2.2.2.2.2.2.2.2.2.2.2.2.2.1, z.2.2.2.2.2.2.2.2.2.2.2.2.2.2.2.2.2.2.1, z.2.2.2.2.2.2.2.2.2.2.2.2.2.2.2.2.2.2.2.1, z.2.2.2.2.2.2.2.2.2.2.2.2.2.2.2.2.2.2.2.2.1, z.2.2.2.2.2.2.2.2.2.2.2.2.2.2.2.2.2.2.2.2.2.1, z.2.2.2.2.2.2.2.2.2.2.2.2.2.2.2.2.2.2.2.2.2.2)
abbrev z_aP' (z : Mdl) (v : Int32) : Mdl := (z.1, z.2.1, z.2.2.1, z.2.2.2.1, z.2.2.2.2.1, z.2.2.2.2.2.1, z.2.2.2.2.2.2.1, z.2.2.2.2.2.2.2.1, z.2.2.2.2.2.2.2.2.1, z.2.2.2.2.2.2.2.2.2.1, z.2.2.2.2.2.2.2.2.2.2.1, z.2.2.2.2.2.2.2.2.2.2.2.1, z.2.2.2.2.2.2.2.2.2.2.2.2.1, z.2.2.2.2.2.2.2.2.2.2.2.2.2.1, v, z.2.2.2.2.2.2.2.2.2.2.2.2.2.2.2.1, z.2.2.2.2.2.2.2.2.2.2.2.2.2.2.2.2.1, z.2.2.2.2.2.2.2.2.2.2.2.2.2.2.2.2.2.1, z.2.2.2.2.2.2.2.2.2.2.2.2.2.2.2.2.2.2.1, z.2.2.2.2.2.2.2.2.2.2.2.2.2.2.2.2.2.2.2.1, z.2.2.2.2.2.2.2.2.2.2.2.2.2.2.2.2.2.2.2.2.1, z.2.2.2.2.2.2.2.2.2.2.2.2.2.2.2.2.2.2.2.2.2.1, z.2.2.2.2.2.2.2.2.2.2.2.2.2.2.2.2.2.2.2.2.2.2)
abbrev z_aL' (z : Mdl) (v : Int32) : Mdl := (z.1, z.2.1, z.2.2.1, z.2.2.2.1, z.2.2.2.2.1, z.2.2.2.2.2.1, z.2.2.2.2.2.2.1, z.2.2.2.2.2.2.2.1, z.2.2.2.2.2.2.2.2.1, z.2.2.2.2.2.2.2.2.2.1, z.2.2.2.2.2.2.2.2.2.2.1, z.2.2.2.2.2.2.2.2.2.2.2.1, z.2.2.2.2.2.2.2.2.2.2.2.2.1, z.2.2.2.2.2.2.2.2.2.2.2.2.2.1, z.2.2.2.2.2.2.2.2.2.2.2.2.2.2.1, v, z.2.2.2.2.2.2.2.2.2.2.2.2.2.2.2.2.1, z.2.2.2.2.2.2.2.2.2.2.2.2.2.2.2.2.2.1, z.2.2.2.2.2.2.2.2.2.2.2.2.2.2.2.2.2.2.1, z.2.2.2.2.2.2.2.2.2.2.2.2.2.2.2.2.2.2.2.1, z.2.2.2.2.2.2.2.2.2.2.2.2.2.2.2.2.2.2.2.2.1, z.2.2.2.2.2.2.2.2.2.2.2.2.2.2.2.2.2.2.2.2.2.1, z.2.2.2.2.2.2.2.2.2.2.2.2.2.2.2.2.2.2.2.2.2.2)
abbrev z_items' (z : Mdl) (v : Int32) : Mdl := (z.1, z.2.1, z.2.2.1, z.2.2.2.1, z.2.2.2.2.1, z.2.2.2.2.2.1, z.2.2.2.2.2.2.1, z.2.2.2.2.2.2.2.1, z.2.2.2.2.2.2.2.2.1, z.2.2.2.2.2.2.2.2.2.1, z.2.2.2.2.2.2.2.2.2.2.1, z.2.2.2.2.2.2.2.2.2.2.2.1, z.2.2.2.2.2.2.2.2.2.2.2.2.1, z.2.2.2.2.2.2.2.2.2.2.2.2.2.1, z.2.2.2.2.2.2.2.2.2.2.2.2.2.2.1, z.2.2.2.2.2.2.2.2.2.2.2.2.2.2.2.1, v, z.2.2.2.2.2.2.2.2.2.2.2.2.2.2.2.2.2.1, z.2.2.2.2.2.2.2.2.2.2.2.2.2.2.2.2.2.2.1, z.2.2.2.2.2.2.2.2.2.2.2.2.2.2.2.2.2.2.2.1, z.2.2.2.2.2.2.2.2.2.2.2.2.2.2.2.2.2.2.2.2.1, z.2.2.2.2.2.2.2.2.2.2.2.2.2.2.2.2.2.2.2.2.2.1, z.2.2.2.2.2.2.2.2.2.2.2.2.2.2.2.2.2.2.2.2.2.2)
abbrev z_cuts' (z : Mdl) (v : Fn) : Mdl := (z.1, z.2.1, z.2.2.1, z.2.2.2.1, z.2.2.2.2.1, z.2.2.2.2.2.1, z.2.2.2.2.2.2.1, z.2.2.2.2.2.2.2.1, z.2.2.2.2.2.2.2.2.1, z.2.2.2.2.2.2.2.2.2.1, z.2.2.2.2.2.2.2.2.2.2.1, z.2.2.2.2.2.2.2.2.2.2.2.1, z.2.2.2.2.2.2.2.2.2.2.2.2.1, z.2.2.2.2.2.2.2.2.2.2.2.2.2.1, z.2.2.2.2.2.2.2.2.2.2.2.2.2.2.1, z.2.2.2.2.2.2.2.2.2.2.2.2.2.2.2.1, z.2.2.2.2.2.2.2.2.2.2.2.2.2.2.2.2.1, v, z.2.2.2.2.2.2.2.2.2.2.2.2.2.2.2.2.2.2.1, z.2.2.2.2.2.2.2.2.2.2.2.2.2.2.2.2.2.2.2.1, z.2.2.2.2.2.2.2.2.2.2.2.2.2.2.2.2.2.2.2.2.1, z.2.2.2.2.2.2.2.2.2.2.2.2.2.2.2.2.2.2.2.2.2.1, z.2.2.2.2.2.2.2.2.2.2.2.2.2.2.2.2.2.2.2.2.2.2)
abbrev z_way' (z : Mdl) (v : Fn) : Mdl := (z.1, z.2.1, z.2.2.1, z.2.2.2.1, z.2.2.2.2.1, z.2.2.2.2.2.1, z.2.2.2.2.2.2.1, z.2.2.2.2.2.2.2.1, z.2.2.2.2.2.2.2.2.1, z.2.2.2.2.2.2.2.2.2.1, z.2.2.2.2.2.2.2.2.2.2.1, z.2.2.2.2.2.2.2.2.2.2.2.1, z.2.2.2.2.2.2.2.2.2.2.2.2.1, z.2.2.2.2.2.2.2.2.2.2.2.2.2.1, z.2.2.2.2.2.2.2.2.2.2.2.2.2.2.1, z.2.2.2.2.2.2.2.2.2.2.2.2.2.2.2.1, z.2.2.2.2.2.2.2.2.2.2.2.2.2.2.2.2.1, z.2.2.2.2.2.2.2.2.2.2.2.2.2.2.2.2.2.1, v, z.2.2.2.2.2.2.2.2.2.2.2.2.2.2.2.2.2.2.2.1, z.2.2.2.2.2.2.2.2.2.2.2.2.2.2.2.2.2.2.2.2.1, z.2.2.2.2.2.2.2.2.2.2.2.2.2.2.2.2.2.2.2.2.2.1, z.2.2.2.2.2.2.2.2.2.2.2.2.2.2.2.2.2.2.2.2.2.2)
abbrev z_wc' (z : Mdl) (v : Int32) : Mdl := (z.1, z.2.1, z.2.2.1, z.2.2.2.1, z.2.2.2.2.1, z.2.2.2.2.2.1, z.2.2.2.2.2.2.1, z.2.2.2.2.2.2.2.1, z.2.2.2.2.2.2.2.2.1, z.2.2.2.2.2.2.2.2.2.1, z.2.2.2.2.2.2.2.2.2.2.1, z.2.2.2.2.2.2.2.2.2.2.2.1, z.2.2.2.2.2.2.2.2.2.2.2.2.1, z.2.2.2.2.2.2.2.2.2.2.2.2.2.1, z.2.2.2.2.2.2.2.2.2.2.2.2.2.2.1, z.2.2.2.2.2.2.2.2.2.2.2.2.2.2.2.1, z.2.2.2.2.2.2.2.2.2.2.2.2.2.2.2.2.1, z.2.2.2.2.2.2.2.2.2.2.2.2.2.2.2.2.2.1, z.2.2.2.2.2.2.2.2.2.2.2.2.2.2.2.2.2.2.1, v, z.2.2.2.2.2.2.2.2.2.2.2.2.2.2.2.2.2.2.2.2.1, z.2.2.2.2.2.2.2.2.2.2.2.2.2.2.2.2.2.2.2.2.2.1, z.2.2.2.2.2.2.2.2.2.2.2.2.2.2.2.2.2.2.2.2.2.2)
abbrev z_best' (z : Mdl) (v : Fn) : Mdl := (z.1, z.2.1, z.2.2.1, z.2.2.2.1, z.2.2.2.2.1, z.2.2.2.2.2.1, z.2.2.2.2.2.2.1, z.2.2.2.2.2.2.2.1, z.2.2.2.2.2.2.2.2.1, z.2.2.2.2.2.2.2.2.2.1, z.2.2.2.2.2.2.2.2.2.2.1, z.2.2.2.2.2.2.2.2.2.2.2.1, z.2.2.2.2.2.2.2.2.2.2.2.2.1, z.2.2.2.2.2.2.2.2.2.2.2.2.2.1, z.2.2.2.2.2.2.2.2.2.2.2.2.2.2.1, z.2.2.2.2.2.2.2.2.2.2.2.2.2.2.2.1, z.2.2.2.2.2.2.2.2.2.2.2.2.2.2.2.2.1, z.2.2.2.2.2.2.2.2.2.2.2.2.2.2.2.2.2.1, z.2.2.2.2.2.2.2.2.2.2.2.2.2.2.2.2.2.2.1, z.2.2.2.2.2.2.2.2.2.2.2.2.2.2.2.2.2.2.2.1, v, z.2.2.2.2.2.2.2.2.2.2.2.2.2.2.2.2.2.2.2.2.2.1, z.2.2.2.2.2.2.2.2.2.2.2.2.2.2.2.2.2.2.2.2.2.2)
abbrev z_bc' (z : Mdl) (v : Int32) : Mdl := (z.1, z.2.1, z.2.2.1, z.2.2.2.1, z.2.2.2.2.1, z.2.2.2.2.2.1, z.2.2.2.2.2.2.1, z.2.2.2.2.2.2.2.1, z.2.2.2.2.2.2.2.2.1, z.2.2.2.2.2.2.2.2.2.1, z.2.2.2.2.2.2.2.2.2.2.1, z.2.2.2.2.2.2.2.2.2.2.2.1, z.2.2.2.2.2.2.2.2.2.2.2.2.1, z.2.2.2.2.2.2.2.2.2.2.2.2.2.1, z.2.2.2.2.2.2.2.2.2.2.2.2.2.2.1, z.2.2.2.2.2.2.2.2.2.2.2.2.2.2.2.1, z.2.2.2.2.2.2.2.2.2.2.2.2.2.2.2.2.1, z.2.2.2.2.2.2.2.2.2.2.2.2.2.2.2.2.2.1, z.2.2.2.2.2.2.2.2.2.2.2.2.2.2.2.2.2.2.1, z.2.2.2.2.2.2.2.2.2.2.2.2.2.2.2.2.2.2.2.1, z.2.2.2.2.2.2.2.2.2.2.2.2.2.2.2.2.2.2.2.2.1, v, z.2.2.2.2.2.2.2.2.2.2.2.2.2.2.2.2.2.2.2.2.2.2)
abbrev z_bs' (z : Mdl) (v : Int32) : Mdl := (z.1, z.2.1, z.2.2.1, z.2.2.2.1, z.2.2.2.2.1, z.2.2.2.2.2.1, z.2.2.2.2.2.2.1, z.2.2.2.2.2.2.2.1, z.2.2.2.2.2.2.2.2.1, z.2.2.2.2.2.2.2.2.2.1, z.2.2.2.2.2.2.2.2.2.2.1, z.2.2.2.2.2.2.2.2.2.2.2.1, z.2.2.2.2.2.2.2.2.2.2.2.2.1, z.2.2.2.2.2.2.2.2.2.2.2.2.2.1, z.2.2.2.2.2.2.2.2.2.2.2.2.2.2.1, z.2.2.2.2.2.2.2.2.2.2.2.2.2.2.2.1, z.2.2.2.2.2.2.2.2.2.2.2.2.2.2.2.2.1, z.2.2.2.2.2.2.2.2.2.2.2.2.2.2.2.2.2.1, z.2.2.2.2.2.2.2.2.2.2.2.2.2.2.2.2.2.2.1, z.2.2.2.2.2.2.2.2.2.2.2.2.2.2.2.2.2.2.2.1, z.2.2.2.2.2.2.2.2.2.2.2.2.2.2.2.2.2.2.2.2.1, z.2.2.2.2.2.2.2.2.2.2.2.2.2.2.2.2.2.2.2.2.2.1, v)
abbrev o_D (z : Oth) : Scn := z.1
abbrev o_P (z : Oth) : Nat → Scn := z.2.1
abbrev o_I (z : Oth) : Nat → Scn := z.2.2.1
abbrev o_kn (z : Oth) : Int32 := z.2.2.2.1
abbrev o_nx (z : Oth) : Int32 := z.2.2.2.2.1
abbrev o_R (z : Oth) : Rd := z.2.2.2.2.2.1
abbrev o_Q (z : Oth) : Pln := z.2.2.2.2.2.2.1
abbrev o_G (z : Oth) : Sgt := z.2.2.2.2.2.2.2.1
abbrev o_kp (z : Oth) : Fn := z.2.2.2.2.2.2.2.2.1
abbrev o_M (z : Oth) : Mdl := z.2.2.2.2.2.2.2.2.2
abbrev o_D' (z : Oth) (v : Scn) : Oth := (v, z.2.1, z.2.2.1, z.2.2.2.1, z.2.2.2.2.1, z.2.2.2.2.2.1, z.2.2.2.2.2.2.1, z.2.2.2.2.2.2.2.1, z.2.2.2.2.2.2.2.2.1, z.2.2.2.2.2.2.2.2.2)
abbrev o_P' (z : Oth) (v : Nat → Scn) : Oth := (z.1, v, z.2.2.1, z.2.2.2.1, z.2.2.2.2.1, z.2.2.2.2.2.1, z.2.2.2.2.2.2.1, z.2.2.2.2.2.2.2.1, z.2.2.2.2.2.2.2.2.1, z.2.2.2.2.2.2.2.2.2)
abbrev o_I' (z : Oth) (v : Nat → Scn) : Oth := (z.1, z.2.1, v, z.2.2.2.1, z.2.2.2.2.1, z.2.2.2.2.2.1, z.2.2.2.2.2.2.1, z.2.2.2.2.2.2.2.1, z.2.2.2.2.2.2.2.2.1, z.2.2.2.2.2.2.2.2.2)
abbrev o_kn' (z : Oth) (v : Int32) : Oth := (z.1, z.2.1, z.2.2.1, v, z.2.2.2.2.1, z.2.2.2.2.2.1, z.2.2.2.2.2.2.1, z.2.2.2.2.2.2.2.1, z.2.2.2.2.2.2.2.2.1, z.2.2.2.2.2.2.2.2.2)
abbrev o_nx' (z : Oth) (v : Int32) : Oth := (z.1, z.2.1, z.2.2.1, z.2.2.2.1, v, z.2.2.2.2.2.1, z.2.2.2.2.2.2.1, z.2.2.2.2.2.2.2.1, z.2.2.2.2.2.2.2.2.1, z.2.2.2.2.2.2.2.2.2)
abbrev o_R' (z : Oth) (v : Rd) : Oth := (z.1, z.2.1, z.2.2.1, z.2.2.2.1, z.2.2.2.2.1, v, z.2.2.2.2.2.2.1, z.2.2.2.2.2.2.2.1, z.2.2.2.2.2.2.2.2.1, z.2.2.2.2.2.2.2.2.2)
abbrev o_Q' (z : Oth) (v : Pln) : Oth := (z.1, z.2.1, z.2.2.1, z.2.2.2.1, z.2.2.2.2.1, z.2.2.2.2.2.1, v, z.2.2.2.2.2.2.2.1, z.2.2.2.2.2.2.2.2.1, z.2.2.2.2.2.2.2.2.2)
abbrev o_G' (z : Oth) (v : Sgt) : Oth := (z.1, z.2.1, z.2.2.1, z.2.2.2.1, z.2.2.2.2.1, z.2.2.2.2.2.1, z.2.2.2.2.2.2.1, v, z.2.2.2.2.2.2.2.2.1, z.2.2.2.2.2.2.2.2.2)
abbrev o_kp' (z : Oth) (v : Fn) : Oth := (z.1, z.2.1, z.2.2.1, z.2.2.2.1, z.2.2.2.2.1, z.2.2.2.2.2.1, z.2.2.2.2.2.2.1, z.2.2.2.2.2.2.2.1, v, z.2.2.2.2.2.2.2.2.2)
abbrev o_M' (z : Oth) (v : Mdl) : Oth := (z.1, z.2.1, z.2.2.1, z.2.2.2.1, z.2.2.2.2.1, z.2.2.2.2.2.1, z.2.2.2.2.2.2.1, z.2.2.2.2.2.2.2.1, z.2.2.2.2.2.2.2.2.1, v)
abbrev ia (n : Nat) (f : Fn) : va_E := .inl (0, n, .inl f)
abbrev ra (t n : Nat) (f : Nat → Option Nat) : va_E := .inl (t, n, .inr (.inr (.inr (.inr f))))
def scn (k : Nat) (S : Scn) : AH := [.inr (3, [.ref (k + 1), .ref (k + 2), .ref (k + 3), .ref (k + 4), .int (s_nl S), .int (s_ns S)]), ia 4 (s_pl S), ia 8 (s_sp S), ia 8 (s_ed S), ia 42 (s_fc S)]
def rdr (R : Rd) : AH := [.inr (2, [.ref 54, .int (r_len R), .int (r_kd R), .int (r_st R), .int (r_en R), .int (r_pt R), .int (r_lt R)]), ia 160 (r_t R)]
def rows8 (f : Nat → Fn) : AH := [ia 6 (f 0), ia 6 (f 1), ia 6 (f 2), ia 6 (f 3), ia 6 (f 4), ia 6 (f 5), ia 6 (f 6), ia 6 (f 7)]
def pln (Q : Pln) : AH := .inr (1, [.ref 56, .ref 57, .ref 66, .ref 75, .ref 76, .ref 77, .ref 78, .int (p_nl Q), .int (p_ns Q), .int (p_bz Q), .int (p_bc Q)]) :: ia 8 (p_cov Q) ::
    ra 3 8 (fun i => if i < 8 then some (57 + 1 + i) else none) :: (rows8 (p_fol Q) ++ (ra 3 8 (fun i => if i < 8 then some (66 + 1 + i) else none) :: (rows8 (p_cut Q) ++
    [ia 6 (p_par Q), ia 6 (p_pri Q), ia 8 (p_tri Q), ia 8 (p_bes Q)])))
def sgt (G : Sgt) : AH := [.inr (4, [.ref 80, .ref 81, .int (q_sn G)]), ia 6 (q_wh G), ia 6 (q_nu G)]
def pst (kn nx : Int32) (P : Nat → Scn) : AH :=
  .inr (0, [.ref 12, .int kn, .int nx]) :: ra 2 8 (fun i => if i < 8 then some (13 + 5 * i) else none) :: (scn 13 (P 0) ++ (scn 18 (P 1) ++ (scn 23 (P 2) ++ (scn 28 (P 3) ++ (scn 33 (P 4) ++ (scn 38 (P 5) ++ (scn 43 (P 6) ++ scn 48 (P 7))))))))
def mdl (M : Mdl) : AH := [.inr (6, [.ref 95, .ref 96, .ref 97, .int (z_deeds M), .ref 98, .ref 99, .ref 100, .int (z_let M), .int (z_at M), .int (z_tok M), .int (z_tat M), .ref 101, .ref 102, .int (z_seen M), .int (z_aP M), .int (z_aL M), .int (z_items M), .ref 103, .ref 104, .int (z_wc M), .ref 105, .int (z_bc M), .int (z_bs M)]),
     ia 64 (z_now M), ia 64 (z_rd M), ia 512 (z_past M), ia 128 (z_img M), .inl (1, 2, .inl (z_kept M)), ia 160 (z_text M), ia 6 (z_sw M), ia 6 (z_si M), ia 48 (z_cuts M), ia 8 (z_way M), ia 8 (z_best M)]
def lay (X : St) : AH :=
  .inr (5, [.ref 1, .ref 6, .ref 11, .ref 53, .ref 55, .ref 79, .ref 82, .ref 93]) :: (scn 1 X.1 ++ (scn 6 (o_D X.2) ++ (pst (o_kn X.2) (o_nx X.2) (o_P X.2) ++ (rdr (o_R X.2) ++ (pln (o_Q X.2) ++ (sgt (o_G X.2) ++ (ra 2 2 (fun i => if i < 2 then some (83 + 5 * i) else none) :: (scn 83 (o_I X.2 0) ++ (scn 88 (o_I X.2 1) ++ (.inl (1, 2, .inl (o_kp X.2)) :: mdl (o_M X.2)))))))))))
/-! numbers -/
theorem nlit (n : Nat) : (OfNat.ofNat n : Int32) = nI n := rfl
theorem nzero : (0 : Int32) = nI 0 := rfl
theorem none_ : (1 : Int32) = nI 1 := rfl
theorem vin {x : Int32} {j n : Nat} (h : x = nI j) (hj : j < n) (hn : n ≤ 2000) : vp_in x n := by rw [h]; exact vp_in_nI hj (by omega)
theorem vcl {x : Int32} {j : Nat} (h : x = nI j) (hj : j ≤ 2000) : x.toNatClampNeg = j := by rw [h]; exact nI_clamp (by omega)
def bi (b : Bool) : Int32 := if b then 1 else 0
theorem bi_t {b : Bool} (h : b = true) : bi b = 1 := by rw [h]; rfl
theorem bi_f {b : Bool} (h : b = false) : bi b = 0 := by rw [h]; rfl
theorem bi_01 (b : Bool) : bi b = 0 ∨ bi b = 1 := by cases b <;> simp [bi]
theorem bi_n (b : Bool) : narrow .boolean (.int (bi b)) = .int (bi b) := by cases b <;> rfl
theorem bi_e0 (b : Bool) : bi b = 0 ↔ b = false := by cases b <;> simp [bi]
theorem bi_e1 (b : Bool) : bi b = 1 ↔ b = true := by cases b <;> simp [bi]
end
section
/-! ===== what the two read off a scene ===== -/
def sdA (pl fc : Fn) (s : Nat) : Int32 :=
  if (pl 3 - pl 1) * (fc (7 * s) - pl 0) < (pl 2 - pl 0) * (fc (7 * s + 1) - pl 1) then 1 else if (pl 2 - pl 0) * (fc (7 * s + 1) - pl 1) < (pl 3 - pl 1) * (fc (7 * s) - pl 0) then -1 else 0
def wyA (pl fc : Fn) (s k : Nat) : Int32 := 2 * fc (7 * s + k) - pl k - pl (2 + k)
def nrA (pl fc : Fn) (s t : Nat) : Bool :=
  decide (wyA pl fc s 0 * wyA pl fc s 0 + wyA pl fc s 1 * wyA pl fc s 1 = 0) || decide (wyA pl fc t 0 * wyA pl fc t 0 + wyA pl fc t 1 * wyA pl fc t 1 = 0) ||
  (decide (0 < wyA pl fc s 0 * wyA pl fc t 0 + wyA pl fc s 1 * wyA pl fc t 1) &&
   decide (3 * (wyA pl fc s 0 * wyA pl fc s 0 + wyA pl fc s 1 * wyA pl fc s 1) * (wyA pl fc t 0 * wyA pl fc t 0 + wyA pl fc t 1 * wyA pl fc t 1) < 4 * (wyA pl fc s 0 * wyA pl fc t 0 + wyA pl fc s 1 * wyA pl fc t 1) * (wyA pl fc s 0 * wyA pl fc t 0 + wyA pl fc s 1 * wyA pl fc t 1)))
def lkA (pl fc : Fn) (s t : Nat) : Bool := decide (fc (7 * s + 2) = fc (7 * t + 2)) && (!decide (fc (7 * s + 3) - fc (7 * t + 3) < -1) && !decide (1 < fc (7 * s + 3) - fc (7 * t + 3))) && nrA pl fc s t
def cnA (pl fc : Fn) (s t : Nat) : Bool := !decide (s = t) && !decide (sdA pl fc s * sdA pl fc t = -1) && !lkA pl fc s t
def cvA (fc : Fn) (s l : Nat) : Bool := !decide (nI l < fc (7 * s + 4)) && !decide (fc (7 * s + 5) < nI l)
def reA (fc sp : Fn) (l s : Nat) : Bool := decide (fc (7 * s + 2) = 1 - sp l)
/-- the numbers of a scene are as told -/
def Okp (pl : Fn) : Prop := ∀ i, i < 4 → ∃ n : Nat, n ≤ 9 ∧ pl i = nI n
def Okf (fc : Fn) (n : Nat) : Prop := ∀ s, s < n → (∀ w, w < 7 → ∃ q : Nat, q ≤ 9 ∧ fc (7 * s + w) = nI q)
/-! small numbers -/
theorem oI_nat (n : Nat) : nI n = Int32.ofInt n := by first | rfl | exact (Int32.ofInt_eq_ofNat).symm | simp [nI, Int32.ofInt_eq_ofNat] | (apply Int32.toBitVec_inj.mp; simp [nI])
theorem sm_mul : ∀ i : Nat, i < 19 → ∀ j : Nat, j < 19 → ((i : Int) - 9) * ((j : Int) - 9) ≤ 81 ∧ -81 ≤ ((i : Int) - 9) * ((j : Int) - 9) := by decide +kernel
theorem sm_mul2 {p q : Int} (h1 : -9 ≤ p) (h2 : p ≤ 9) (h3 : -9 ≤ q) (h4 : q ≤ 9) : p * q ≤ 81 ∧ -81 ≤ p * q := by
  have := sm_mul (p + 9).toNat (by omega) (q + 9).toNat (by omega)
  rw [show (((p + 9).toNat : Nat) : Int) - 9 = p by omega, show (((q + 9).toNat : Nat) : Int) - 9 = q by omega] at this
  exact this
theorem sub_oI (a b : Nat) : nI a - nI b = Int32.ofInt ((a : Int) - b) := by rw [oI_nat, oI_nat, Int32.ofInt_sub]
def sgnF (x : Int32) : Int32 := (x >>> (31 &&& 31)) ||| ((-x).toUInt32 >>> (Int32.toUInt32 31 &&& Int32.toUInt32 31)).toInt32
theorem sgn_fin : ∀ i : Nat, i < 163 → ∀ j : Nat, j < 163 → sgnF (Int32.ofInt ((i : Int) - 81) - Int32.ofInt ((j : Int) - 81)) = (if Int32.ofInt ((j : Int) - 81) < Int32.ofInt ((i : Int) - 81) then 1 else if Int32.ofInt ((i : Int) - 81) < Int32.ofInt ((j : Int) - 81) then -1 else 0) := by decide +kernel
theorem sgn_eq {u v : Int} (h1 : -81 ≤ u) (h2 : u ≤ 81) (h3 : -81 ≤ v) (h4 : v ≤ 81) : sgnF (Int32.ofInt u - Int32.ofInt v) = (if Int32.ofInt v < Int32.ofInt u then 1 else if Int32.ofInt u < Int32.ofInt v then -1 else 0) := by
  have := sgn_fin (u + 81).toNat (by omega) (v + 81).toNat (by omega)
  rw [show (((u + 81).toNat : Nat) : Int) - 81 = u by omega, show (((v + 81).toNat : Nat) : Int) - 81 = v by omega] at this
  exact this
theorem sd_sgn {pl fc : Fn} {s n : Nat} (hp : Okp pl) (hf : Okf fc n) (hs : s < n) : sgnF ((pl 2 - pl 0) * (fc (7 * s + 1) - pl 1) - (pl 3 - pl 1) * (fc (7 * s) - pl 0)) = sdA pl fc s := by
  unfold sdA
  obtain ⟨p0, b0, e0⟩ := hp 0 (by decide)
  obtain ⟨p1, b1, e1⟩ := hp 1 (by decide)
  obtain ⟨p2, b2, e2⟩ := hp 2 (by decide)
  obtain ⟨p3, b3, e3⟩ := hp 3 (by decide)
  obtain ⟨x, bx, ex⟩ := hf s hs 0 (by decide)
  obtain ⟨y, bY, ey⟩ := hf s hs 1 (by decide)
  rw [show fc (7 * s) = nI x from ex, ey, e0, e1, e2, e3]
  simp only [sub_oI, ← Int32.ofInt_mul]
  have m1 := sm_mul2 (p := (p2 : Int) - p0) (q := (y : Int) - p1) (by omega) (by omega) (by omega) (by omega)
  have m2 := sm_mul2 (p := (p3 : Int) - p1) (q := (x : Int) - p0) (by omega) (by omega) (by omega) (by omega)
  exact sgn_eq m1.2 m1.1 m2.2 m2.1
theorem wy_oI {pl fc : Fn} {s n k : Nat} (hp : Okp pl) (hf : Okf fc n) (hs : s < n) (hk : k < 2) : ∃ z : Int, -18 ≤ z ∧ z ≤ 18 ∧ wyA pl fc s k = Int32.ofInt z := by
  obtain ⟨p0, b0, e0⟩ := hp k (by omega)
  obtain ⟨p1, b1, e1⟩ := hp (2 + k) (by omega)
  obtain ⟨x, bx, ex⟩ := hf s hs k (by omega)
  refine ⟨2 * (x : Int) - p0 - p1, by omega, by omega, ?_⟩
  unfold wyA
  rw [e0, e1, ex, show (2 : Int32) = nI 2 from rfl, oI_nat 2, oI_nat x, oI_nat p0, oI_nat p1, ← Int32.ofInt_mul, ← Int32.ofInt_sub, ← Int32.ofInt_sub]
  rfl
theorem sq_fin : ∀ i : Nat, i < 37 → ∃ q : Nat, q ≤ 324 ∧ Int32.ofInt ((i : Int) - 18) * Int32.ofInt ((i : Int) - 18) = nI q := by
  intro i hi
  refine ⟨((((i : Int) - 18) * ((i : Int) - 18))).toNat, ?_⟩
  revert i
  decide +kernel
theorem sq_oI {z : Int} (h1 : -18 ≤ z) (h2 : z ≤ 18) : ∃ q : Nat, q ≤ 324 ∧ Int32.ofInt z * Int32.ofInt z = nI q := by
  have := sq_fin (z + 18).toNat (by omega)
  rw [show (((z + 18).toNat : Nat) : Int) - 18 = z by omega] at this
  exact this
/-- the product of both lengths is 0 just if one is -/
theorem len0 {pl fc : Fn} {s t n : Nat} (hp : Okp pl) (hf : Okf fc n) (hs : s < n) (ht : t < n) : ((wyA pl fc s 0 * wyA pl fc s 0 + wyA pl fc s 1 * wyA pl fc s 1) * (wyA pl fc t 0 * wyA pl fc t 0 + wyA pl fc t 1 * wyA pl fc t 1) = 0) ↔ (wyA pl fc s 0 * wyA pl fc s 0 + wyA pl fc s 1 * wyA pl fc s 1 = 0 ∨ wyA pl fc t 0 * wyA pl fc t 0 + wyA pl fc t 1 * wyA pl fc t 1 = 0) := by
  obtain ⟨z1, a1, c1, e1⟩ := wy_oI (k := 0) hp hf hs (by decide)
  obtain ⟨z2, a2, c2, e2⟩ := wy_oI (k := 1) hp hf hs (by decide)
  obtain ⟨z3, a3, c3, e3⟩ := wy_oI (k := 0) hp hf ht (by decide)
  obtain ⟨z4, a4, c4, e4⟩ := wy_oI (k := 1) hp hf ht (by decide)
  obtain ⟨q1, d1, g1⟩ := sq_oI a1 c1
  obtain ⟨q2, d2, g2⟩ := sq_oI a2 c2
  obtain ⟨q3, d3, g3⟩ := sq_oI a3 c3
  obtain ⟨q4, d4, g4⟩ := sq_oI a4 c4
  rw [e1, e2, e3, e4, g1, g2, g3, g4, nI_add, nI_add, pk_mul, nzero]
  have hm : (q1 + q2) * (q3 + q4) ≤ 648 * 648 := Nat.mul_le_mul (by omega) (by omega)
  rw [nI_eq (by omega) (by decide), nI_eq (by omega) (by decide), nI_eq (by omega) (by decide), Nat.mul_eq_zero]
theorem abs_fin : ∀ i : Nat, i < 19 → (((if 0 ≤ Int32.ofInt ((i : Int) - 9) then Int32.ofInt ((i : Int) - 9) else 0 - Int32.ofInt ((i : Int) - 9)) < 2) ↔ (¬ Int32.ofInt ((i : Int) - 9) < -1 ∧ ¬ 1 < Int32.ofInt ((i : Int) - 9))) := by decide +kernel
theorem abs_lt2 {a b : Nat} (ha : a ≤ 9) (hb : b ≤ 9) : ((if 0 ≤ nI a - nI b then nI a - nI b else 0 - (nI a - nI b)) < 2) ↔ (¬ nI a - nI b < -1 ∧ ¬ 1 < nI a - nI b) := by
  rw [sub_oI]
  have := abs_fin ((a : Int) - b + 9).toNat (by omega)
  rw [show ((((a : Int) - b + 9).toNat : Nat) : Int) - 9 = (a : Int) - b by omega] at this
  exact this
end
section
theorem vlit {j n : Nat} (hj : j < n) (hn : n ≤ 2000) : vp_in (nI j) n := vp_in_nI hj (by omega)
theorem awl {g : Glob} {M : Mth} {Post : Option Value → AH → Prop} {cl sl pc : Nat} {ls ls' : List (Option Value)} {st : List Value} {h : AH} (e : ls = ls') (k : AW g M Post cl sl pc ls' st h) : AW g M Post cl sl pc ls st h := e ▸ k
theorem nge {n i : Nat} (h : i < n) (hn : n ≤ 2000) : ¬ nI n ≤ nI i := nI_ge h (by omega)
theorem nle {n i : Nat} (h : n ≤ i) (hn : i ≤ 2000) : nI n ≤ nI i := nI_le h (by omega)
theorem neqI {a b : Nat} (ha : a ≤ 2000) (hb : b ≤ 2000) : nI a = nI b ↔ a = b := nI_eq (by omega) (by omega)
theorem nltI {a b : Nat} (ha : a ≤ 2000) (hb : b ≤ 2000) : nI a < nI b ↔ a < b := nI_ltI (by omega) (by omega)
theorem nleI {a b : Nat} (ha : a ≤ 2000) (hb : b ≤ 2000) : nI a ≤ nI b ↔ a ≤ b := nI_leI (by omega) (by omega)
/-- shots as bits -/
def msk (p : Nat → Bool) : Nat → Nat
  | 0 => 0
  | n + 1 => if p n then msk p n + 2 ^ n else msk p n
theorem msk_lt (p : Nat → Bool) : ∀ n, msk p n < 2 ^ n
  | 0 => by simp [msk]
  | n + 1 => by
    have := msk_lt p n
    unfold msk
    split <;> rw [Nat.pow_succ] <;> omega
theorem bit_or : ∀ i : Nat, i < 6 → ∀ b : Nat, b < 64 → b < 2 ^ i → nI b ||| (1 <<< (nI i &&& 31)) = nI (b + 2 ^ i) := by decide +kernel
theorem msk_or {p : Nat → Bool} {i : Nat} (hi : i < 6) (hp : p i = true) : nI (msk p i) ||| (1 <<< (nI i &&& 31)) = nI (msk p (i + 1)) := by
  have h1 := msk_lt p i
  have h2 : 2 ^ i ≤ 2 ^ 5 := Nat.pow_le_pow_right (by decide) (by omega)
  rw [bit_or i hi _ (by omega) h1]
  simp [msk, hp]
theorem msk_no {p : Nat → Bool} {i : Nat} (hp : p i = false) : msk p (i + 1) = msk p i := by simp [msk, hp]
theorem dn {P : Nat → Prop} {n : Nat} (he : P n) (hs : ∀ i, i < n → P (i + 1) → P i) : ∀ i, i ≤ n → P i := by
  intro i hi
  obtain ⟨k, rfl⟩ : ∃ k, n = i + k := ⟨n - i, by omega⟩
  clear hi
  induction k generalizing i with
  | zero => exact he
  | succ k ih => exact hs i (by omega) (ih (i + 1) (by rw [show i + 1 + k = i + (k + 1) by omega]; exact he) (fun j hj => hs j (by omega)))
/-- a line's shot, or none -/
def sh (o : Option Nat) : Int32 := match o with
  | none => -9
  | some s => nI s
def okO (n : Nat) (o : Option Nat) : Prop := ∀ s, o = some s → s < n
theorem nI_ne9 {s : Nat} (h : s ≤ 2000) : ¬ nI s = -9 := by
  intro z
  have h1 : (nI s).toInt = (s : Int) := nI_toInt (by omega)
  rw [z] at h1
  have h2 : (-9 : Int32).toInt = -9 := by decide
  omega
def reO (fc sp : Fn) (l : Nat) (o : Option Nat) : Bool := match o with
  | none => false
  | some s => reA fc sp l s
def ctO (a b : Option Nat) : Bool := match a, b with
  | some s, some t => !decide (s = t)
  | _, _ => false
def cnO (pl fc : Fn) (a b : Option Nat) : Bool := match a, b with
  | some s, some t => cnA pl fc s t
  | _, _ => false
def cnt (p : Nat → Bool) : Nat → Nat
  | 0 => 0
  | n + 1 => if p n then cnt p n + 1 else cnt p n
theorem cnt_le (p : Nat → Bool) : ∀ n, cnt p n ≤ n
  | 0 => Nat.le_refl 0
  | n + 1 => by
    have := cnt_le p n
    unfold cnt
    split <;> omega
theorem cnt_t {p : Nat → Bool} {n : Nat} (h : p n = true) : cnt p (n + 1) = cnt p n + 1 := by simp [cnt, h]
theorem cnt_f {p : Nat → Bool} {n : Nat} (h : p n = false) : cnt p (n + 1) = cnt p n := by simp [cnt, h]
def usd (eo : Nat → Option Nat) : Nat → Nat
  | 0 => 0
  | n + 1 => match eo n with
    | none => usd eo n
    | some s => usd eo n ||| 2 ^ s
theorem or_lt : ∀ u : Nat, u < 64 → ∀ s : Nat, s < 6 → (u ||| 2 ^ s) < 64 ∧ nI u ||| (1 <<< (nI s &&& 31)) = nI (u ||| 2 ^ s) := by decide +kernel
theorem usd_lt {eo : Nat → Option Nat} {m : Nat} (h : ∀ l, l < m → okO 6 (eo l)) : ∀ n, n ≤ m → usd eo n < 64 := by
  intro n
  induction n with
  | zero => intro _; simp [usd]
  | succ n ih =>
    intro hn
    unfold usd
    have h1 := ih (by omega)
    split
    · exact h1
    · rename_i s he
      exact (or_lt _ h1 s (h n (by omega) s he)).1
/-- how many bits of the lowest six -/
def pop6 (u : Nat) : Nat := u % 2 + u / 2 % 2 + u / 4 % 2 + u / 8 % 2 + u / 16 % 2 + u / 32 % 2
end
section
section SC
variable {g : Glob} {S : Scn} {O : Oth}
theorem ac_signum (x : Int32) (h : AH) : ACe g mJ6_signum_0f7a4 [.int x] h (some (.int (sgnF x))) h := by
  refine acw gdJ6_signum_0f7a4 20 rfl ?_
  exact ⟨rfl, rfl⟩
theorem ac_hasLine (l : Int32) : ACe g mX3_hasLine [.ref 1, .int l] (lay (S, O)) (some (.int (bi (!decide (l < 0) && !decide (s_nl S ≤ l))))) (lay (S, O)) := by
  refine acw gdX3_hasLine 20 rfl ?_
  refine ⟨fun h1 => ?_, fun h1 => ⟨fun h2 => ?_, fun h2 => ?_⟩⟩
  · refine ⟨rfl, ?_, rfl⟩
    simp [bi, h1]
  · refine ⟨rfl, ?_, rfl⟩
    simp [bi, h1, h2]
  · refine ⟨rfl, ?_, rfl⟩
    simp [bi, h1, h2]
theorem ac_hasShot (l : Int32) : ACe g mX3_hasShot [.ref 1, .int l] (lay (S, O)) (some (.int (bi (!decide (l < 0) && !decide (s_ns S ≤ l))))) (lay (S, O)) := by
  refine acw gdX3_hasShot 20 rfl ?_
  refine ⟨fun h1 => ?_, fun h1 => ⟨fun h2 => ?_, fun h2 => ?_⟩⟩
  · refine ⟨rfl, ?_, rfl⟩
    simp [bi, h1]
  · refine ⟨rfl, ?_, rfl⟩
    simp [bi, h1, h2]
  · refine ⟨rfl, ?_, rfl⟩
    simp [bi, h1, h2]
theorem ac_fact {s w : Nat} (hs : s < 6) (hw : w < 7) : ACe g mX3_fact [.ref 1, .int (nI s), .int (nI w)] (lay (S, O)) (some (.int (s_fc S (7 * s + w)))) (lay (S, O)) := by
  refine acw gdX3_fact 20 rfl ?_
  have e : nI s * 7 + nI w = nI (7 * s + w) := by simp only [nlit, pk_mul, nI_add]; congr 1; omega
  refine ⟨_, _, rfl, vin e (by omega) (by omega), ?_⟩
  rw [vcl e (by omega)]
  exact ⟨rfl, rfl⟩
theorem ac_covers {s l : Nat} (hs : s < 6) : ACe g mX3_covers [.ref 1, .int (nI s), .int (nI l)] (lay (S, O)) (some (.int (bi (cvA (s_fc S) s l)))) (lay (S, O)) := by
  refine acw gdX3_covers 30 rfl ?_
  refine ac_to (ac_fact (w := 4) hs (by decide)) ?_
  unfold cvA
  refine ⟨fun h1 => ?_, fun h1 => ?_⟩
  · refine ⟨rfl, ?_, rfl⟩
    simp [bi, h1]
  refine ac_to (ac_fact (w := 5) hs (by decide)) ?_
  refine ⟨fun h2 => ?_, fun h2 => ?_⟩
  · refine ⟨rfl, ?_, rfl⟩
    simp [bi, h1, h2]
  · refine ⟨rfl, ?_, rfl⟩
    simp [bi, h1, h2]
theorem ac_side {s n : Nat} (hs : s < n) (hn : n ≤ 6) (hp : Okp (s_pl S)) (hf : Okf (s_fc S) n) : ACe g mX3_side [.ref 1, .int (nI s)] (lay (S, O)) (some (.int (sdA (s_pl S) (s_fc S) s))) (lay (S, O)) := by
  refine acw gdX3_side 60 rfl ?_
  refine ⟨_, _, rfl, vlit (j := 2) (by decide) (by decide), ?_⟩
  refine ⟨_, _, rfl, vlit (j := 0) (by decide) (by decide), ?_⟩
  refine ⟨_, _, rfl, vlit (j := 3) (by decide) (by decide), ?_⟩
  refine ⟨_, _, rfl, vlit (j := 1) (by decide) (by decide), ?_⟩
  refine ac_to (ac_fact (w := 0) (by omega) (by decide)) ?_
  refine ⟨_, _, rfl, vlit (j := 0) (by decide) (by decide), ?_⟩
  refine ac_to (ac_fact (w := 1) (by omega) (by decide)) ?_
  refine ⟨_, _, rfl, vlit (j := 1) (by decide) (by decide), ?_⟩
  refine ac_to (ac_signum _ _) ?_
  refine ⟨?_, rfl⟩
  exact congrArg (fun z => some (Value.int z)) (sd_sgn hp hf hs)
theorem ac_wayX {s : Nat} (hs : s < 6) : ACe g mX3_wayX [.ref 1, .int (nI s)] (lay (S, O)) (some (.int (wyA (s_pl S) (s_fc S) s 0))) (lay (S, O)) := by
  refine acw gdX3_wayX 60 rfl ?_
  have e : nI s * 7 + 0 = nI (7 * s + 0) := by simp only [nlit, pk_mul, nI_add]; congr 1; omega
  refine ⟨_, _, rfl, vin e (by omega) (by omega), ?_⟩
  rw [vcl e (by omega)]
  refine ⟨_, _, rfl, vlit (j := 0) (by decide) (by decide), ?_⟩
  refine ⟨_, _, rfl, vlit (j := 2) (by decide) (by decide), ?_⟩
  exact ⟨rfl, rfl⟩
theorem ac_wayY {s : Nat} (hs : s < 6) : ACe g mX3_wayY [.ref 1, .int (nI s)] (lay (S, O)) (some (.int (wyA (s_pl S) (s_fc S) s 1))) (lay (S, O)) := by
  refine acw gdX3_wayY 60 rfl ?_
  have e : nI s * 7 + 1 = nI (7 * s + 1) := by simp only [nlit, pk_mul, nI_add]; congr 1; omega
  refine ⟨_, _, rfl, vin e (by omega) (by omega), ?_⟩
  rw [vcl e (by omega)]
  refine ⟨_, _, rfl, vlit (j := 1) (by decide) (by decide), ?_⟩
  refine ⟨_, _, rfl, vlit (j := 3) (by decide) (by decide), ?_⟩
  exact ⟨rfl, rfl⟩
theorem ac_coverers {n l : Nat} (hn : s_ns S = nI n) (h6 : n ≤ 6) : ACe g mX3_coverers [.ref 1, .int (nI l)] (lay (S, O)) (some (.int (nI (msk (fun s => cvA (s_fc S) s l) n)))) (lay (S, O)) := by
  refine acw gdX3_coverers 60 rfl ?_
  refine dn (n := n) (P := fun i => AW g mX3_coverers _ 0 0 4 [some (.ref 1), some (.int (nI l)), some (.int (nI (msk (fun s => cvA (s_fc S) s l) i))), some (.int (nI i))] [] (lay (S, O))) ?_ (fun i hi ih => ?_) 0 (Nat.zero_le _)
  · exact lpw gdX3_coverers 30 ⟨fun _ => ⟨rfl, rfl⟩, fun h => absurd (by rw [hn]; exact nle (by omega) (by omega)) h⟩
  · refine lpw gdX3_coverers 30 ⟨fun h => absurd h (by rw [hn]; exact nge (by omega) (by omega)), fun _ => ?_⟩
    refine ac_to (ac_covers (l := l) (by omega)) ⟨fun hc => awl ?_ ih, fun hc => awl ?_ ih⟩
    · rw [msk_no (p := fun s => cvA (s_fc S) s l) ((bi_e0 _).mp hc), ← nI_1]
      rfl
    · rw [← msk_or (p := fun s => cvA (s_fc S) s l) (by omega) (by simpa [bi_e0] using hc), ← nI_1]
      rfl
theorem ac_near {s t n : Nat} (hs : s < n) (ht : t < n) (hn : n ≤ 6) (hp : Okp (s_pl S)) (hf : Okf (s_fc S) n) : ACe g mX3_near [.ref 1, .int (nI s), .int (nI t)] (lay (S, O)) (some (.int (bi (nrA (s_pl S) (s_fc S) s t)))) (lay (S, O)) := by
  have h0 := len0 hp hf hs ht
  refine acw gdX3_near 90 rfl ?_
  refine ac_to (ac_wayX (by omega)) ?_
  refine ac_to (ac_wayY (by omega)) ?_
  refine ac_to (ac_wayX (by omega)) ?_
  refine ac_to (ac_wayY (by omega)) ?_
  refine ⟨fun h1 => ?_, fun h1 => ?_⟩
  · have h2 := fun z => h1 (h0.mpr z)
    refine ⟨fun h3 => ?_, fun h3 => ⟨fun h4 => ?_, fun h4 => ?_⟩⟩
    · refine ⟨rfl, congrArg (fun z => some (Value.int z)) (bi_f ?_).symm, rfl⟩
      simp only [nrA, Bool.or_eq_false_iff, decide_eq_false_iff_not, Bool.and_eq_false_iff]
      exact ⟨⟨fun z => h2 (Or.inl z), fun z => h2 (Or.inr z)⟩, Or.inl (Int32.not_lt.mpr h3)⟩
    · refine ⟨rfl, congrArg (fun z => some (Value.int z)) (bi_f ?_).symm, rfl⟩
      simp only [nrA, Bool.or_eq_false_iff, decide_eq_false_iff_not, Bool.and_eq_false_iff]
      exact ⟨⟨fun z => h2 (Or.inl z), fun z => h2 (Or.inr z)⟩, Or.inr (by rw [Int32.mul_assoc 3]; exact Int32.not_lt.mpr h4)⟩
    · refine ⟨rfl, congrArg (fun z => some (Value.int z)) (bi_t ?_).symm, rfl⟩
      simp only [nrA, Bool.or_eq_true, decide_eq_true_eq, Bool.and_eq_true]
      exact Or.inr ⟨Int32.not_le.mp h3, by rw [Int32.mul_assoc 3]; exact Int32.not_le.mp h4⟩
  · refine ⟨rfl, congrArg (fun z => some (Value.int z)) (bi_t ?_).symm, rfl⟩
    simp only [nrA, Bool.or_eq_true, decide_eq_true_eq]
    exact Or.inl (h0.mp h1)
theorem ac_tooLike {s t n : Nat} (hs : s < n) (ht : t < n) (hn : n ≤ 6) (hp : Okp (s_pl S)) (hf : Okf (s_fc S) n) : ACe g mX3_tooLike [.ref 1, .int (nI s), .int (nI t)] (lay (S, O)) (some (.int (bi (lkA (s_pl S) (s_fc S) s t)))) (lay (S, O)) := by
  obtain ⟨q1, b1, e1⟩ := hf s hs 3 (by decide)
  obtain ⟨q2, b2, e2⟩ := hf t ht 3 (by decide)
  have ha := abs_lt2 b1 b2
  rw [← e1, ← e2] at ha
  refine acw gdX3_tooLike 90 rfl ?_
  refine ac_to (ac_fact (w := 2) (by omega) (by decide)) ?_
  refine ac_to (ac_fact (w := 2) (by omega) (by decide)) ?_
  refine ⟨fun h1 => ?_, fun h1 => ?_⟩
  · refine ⟨rfl, congrArg (fun z => some (Value.int z)) (bi_f ?_).symm, rfl⟩
    simp [lkA, h1]
  refine ac_to (ac_fact (w := 3) (by omega) (by decide)) ?_
  refine ac_to (ac_fact (w := 3) (by omega) (by decide)) ?_
  refine ⟨fun h2 => ?_, fun h2 => ?_⟩
  · refine ⟨rfl, congrArg (fun z => some (Value.int z)) (bi_f ?_).symm, rfl⟩
    have h3 := fun z => Int32.not_lt.mpr h2 (ha.mpr z)
    by_cases h4 : s_fc S (7 * s + 3) - s_fc S (7 * t + 3) < -1
    · simp [lkA, h4]
    · by_cases h5 : 1 < s_fc S (7 * s + 3) - s_fc S (7 * t + 3)
      · simp [lkA, h5]
      · exact absurd ⟨h4, h5⟩ h3
  have h3 := ha.mp (Int32.not_le.mp h2)
  refine ac_to (ac_near hs ht hn hp hf) ?_
  refine ⟨fun h4 => ?_, fun h4 => ?_⟩
  · refine ⟨rfl, congrArg (fun z => some (Value.int z)) (bi_f ?_).symm, rfl⟩
    simp [lkA, (bi_e0 _).mp h4]
  · refine ⟨rfl, congrArg (fun z => some (Value.int z)) (bi_t ?_).symm, rfl⟩
    rw [bi_e0, Bool.not_eq_false] at h4
    simp [lkA, h4, h1, h3.1, h3.2]
theorem ac_canBeCut {s t n : Nat} (hs : s < n) (ht : t < n) (hn : n ≤ 6) (hp : Okp (s_pl S)) (hf : Okf (s_fc S) n) : ACe g mX3_canBeCut [.ref 1, .int (nI s), .int (nI t)] (lay (S, O)) (some (.int (bi (cnA (s_pl S) (s_fc S) s t)))) (lay (S, O)) := by
  refine acw gdX3_canBeCut 90 rfl ?_
  refine ⟨fun h1 => ?_, fun h1 => ?_⟩
  · rw [neqI (by omega) (by omega)] at h1
    refine ⟨rfl, congrArg (fun z => some (Value.int z)) (bi_f ?_).symm, rfl⟩
    simp [cnA, h1]
  rw [neqI (by omega) (by omega)] at h1
  refine ac_to (ac_side hs hn hp hf) ?_
  refine ac_to (ac_side ht hn hp hf) ?_
  refine ⟨fun h2 => ?_, fun h2 => ?_⟩
  · refine ⟨rfl, congrArg (fun z => some (Value.int z)) (bi_f ?_).symm, rfl⟩
    simp [cnA, h2]
  refine ac_to (ac_tooLike hs ht hn hp hf) ?_
  refine ⟨fun h3 => ?_, fun h3 => ?_⟩
  · refine ⟨rfl, congrArg (fun z => some (Value.int z)) (bi_f ?_).symm, rfl⟩
    rw [bi_e0, Bool.not_eq_false] at h3
    simp [cnA, h3]
  · refine ⟨rfl, congrArg (fun z => some (Value.int z)) (bi_t ?_).symm, rfl⟩
    rw [bi_e0] at h3
    simp [cnA, h1, h2, h3]
theorem ac_partners {s n : Nat} (hs : s < n) (h6 : n ≤ 6) (hn : s_ns S = nI n) (hp : Okp (s_pl S)) (hf : Okf (s_fc S) n) : ACe g mX3_partners [.ref 1, .int (nI s)] (lay (S, O)) (some (.int (nI (msk (fun t => cnA (s_pl S) (s_fc S) s t) n)))) (lay (S, O)) := by
  refine acw gdX3_partners 60 rfl ?_
  refine dn (n := n) (P := fun i => AW g mX3_partners _ 0 0 4 [some (.ref 1), some (.int (nI s)), some (.int (nI (msk (fun t => cnA (s_pl S) (s_fc S) s t) i))), some (.int (nI i))] [] (lay (S, O))) ?_ (fun i hi ih => ?_) 0 (Nat.zero_le _)
  · exact lpw gdX3_partners 30 ⟨fun _ => ⟨rfl, rfl⟩, fun h => absurd (by rw [hn]; exact nle (by omega) (by omega)) h⟩
  · refine lpw gdX3_partners 30 ⟨fun h => absurd h (by rw [hn]; exact nge (by omega) (by omega)), fun _ => ?_⟩
    refine ac_to (ac_canBeCut hs hi h6 hp hf) ⟨fun hc => awl ?_ ih, fun hc => awl ?_ ih⟩
    · rw [msk_no (p := fun t => cnA (s_pl S) (s_fc S) s t) ((bi_e0 _).mp hc), ← nI_1]
      rfl
    · rw [← msk_or (p := fun t => cnA (s_pl S) (s_fc S) s t) (by omega) (by simpa [bi_e0] using hc), ← nI_1]
      rfl
theorem ac_isReaction {l : Nat} {o : Option Nat} (hl : l < 8) (ho : okO 6 o) : ACe g mX3_isReaction [.ref 1, .int (nI l), .int (sh o)] (lay (S, O)) (some (.int (bi (reO (s_fc S) (s_sp S) l o)))) (lay (S, O)) := by
  refine acw gdX3_isReaction 60 rfl ?_
  cases o with
  | none => exact ⟨fun _ => ⟨rfl, rfl, rfl⟩, fun h => absurd rfl h⟩
  | some s =>
    have hs := ho s rfl
    refine ⟨fun h => absurd h (nI_ne9 (by omega)), fun _ => ?_⟩
    refine ac_to (ac_fact (w := 2) hs (by decide)) ?_
    refine ⟨_, _, rfl, vlit hl (by decide), ?_⟩
    rw [vcl rfl (by omega)]
    refine ⟨fun h1 => ?_, fun h1 => ?_⟩
    · refine ⟨rfl, congrArg (fun z => some (Value.int z)) (bi_f ?_).symm, rfl⟩
      simp only [reO, reA, decide_eq_false_iff_not]
      exact h1
    · refine ⟨rfl, congrArg (fun z => some (Value.int z)) (bi_t ?_).symm, rfl⟩
      simp only [reO, reA, decide_eq_true_eq]
      exact h1
end SC
end
section
abbrev ush (x y : Int32) : Int32 := (x.toUInt32 >>> (y.toUInt32 &&& Int32.toUInt32 31)).toInt32
def bc1 (x : Int32) : Int32 := x - (ush x 1 &&& 1431655765)
def bc2 (a : Int32) : Int32 := (a &&& 858993459) + (ush a 2 &&& 858993459)
def bc3 (b : Int32) : Int32 := (b + ush b 4) &&& 252645135
def bc4 (c : Int32) : Int32 := c + ush c 8
def bc5 (d : Int32) : Int32 := d + ush d 16
def bcF (x : Int32) : Int32 := bc5 (bc4 (bc3 (bc2 (bc1 x)))) &&& 63
theorem bc_fin : ∀ u : Nat, u < 64 → bcF (nI u) = nI (pop6 u) := by decide +kernel
def nz4 (i n : Int32) : Int32 := n + ush i 1
def nz3 (i n : Int32) : Int32 := if i ≤ 4 then nz4 i n else nz4 (ush i 2) (n + 2)
def nz2 (i n : Int32) : Int32 := if i ≤ 16 then nz3 i n else nz3 (ush i 4) (n + 4)
def nz1 (i n : Int32) : Int32 := if i ≤ 256 then nz2 i n else nz2 (ush i 8) (n + 8)
def nz0 (i n : Int32) : Int32 := if i ≤ 65536 then nz1 i n else nz1 (ush i 16) (n + 16)
def nzF (x : Int32) : Int32 := if 0 < ((x ^^^ (-1)) &&& (x - 1)) then nz0 ((x ^^^ (-1)) &&& (x - 1)) 1 else ((x ^^^ (-1)) &&& (x - 1)) &&& 32
section SC2
variable {g : Glob} {S : Scn} {O : Oth}
theorem ac_bitCount (x : Int32) (h : AH) : ACe g mJ6_bitCount_0f7a4 [.int x] h (some (.int (bcF x))) h := by
  refine acw gdJ6_bitCount_0f7a4 60 rfl ?_
  exact ⟨rfl, rfl⟩
theorem ac_ntz (x : Int32) (h : AH) : ACe g mJ6_numberOfTrailingZeros_0f7a4 [.int x] h (some (.int (nzF x))) h := by
  refine acw gdJ6_numberOfTrailingZeros_0f7a4 90 rfl ?_
  refine ⟨fun h0 => ?_, fun h0 => ?_⟩
  · refine ⟨fun h1 => ?_, fun h1 => ?_⟩ <;> (refine ⟨fun h2 => ?_, fun h2 => ?_⟩) <;> (refine ⟨fun h3 => ?_, fun h3 => ?_⟩) <;> (refine ⟨fun h4 => ?_, fun h4 => ?_⟩) <;>
    · refine ⟨congrArg (fun z => some (Value.int z)) ?_, rfl⟩
      unfold nzF
      rw [if_pos h0]
      unfold nz0
      (first | rw [if_pos h1] | rw [if_neg h1])
      unfold nz1
      (first | rw [if_pos h2] | rw [if_neg h2])
      unfold nz2
      (first | rw [if_pos h3] | rw [if_neg h3])
      unfold nz3
      (first | rw [if_pos h4] | rw [if_neg h4])
      rfl
  · refine ⟨congrArg (fun z => some (Value.int z)) ?_, rfl⟩
    unfold nzF
    rw [if_neg h0]
/-- THE EDIT of a class's scene -/
def EdS (S : Scn) (eo : Nat → Option Nat) (m n : Nat) : Prop := s_nl S = nI m ∧ m ≤ 8 ∧ n ≤ 6 ∧ ∀ l, l < 8 → s_ed S l = sh (eo l) ∧ okO n (eo l)
theorem sh_none {o : Option Nat} {n : Nat} (h : okO n o) (hn : n ≤ 2000) : sh o = -9 ↔ o = none := by
  cases o with
  | none => simp [sh]
  | some s =>
    have := h s rfl
    simp only [sh]
    constructor
    · intro z; exact absurd z (nI_ne9 (by omega))
    · intro z; cases z
theorem sh_eq {a b : Option Nat} {n : Nat} (ha : okO n a) (hb : okO n b) (hn : n ≤ 2000) (h1 : a ≠ none) (h2 : b ≠ none) : sh a = sh b ↔ ctO a b = false := by
  cases a with
  | none => exact absurd rfl h1
  | some s =>
    cases b with
    | none => exact absurd rfl h2
    | some t =>
      have := ha s rfl
      have := hb t rfl
      simp only [sh, ctO]
      rw [neqI (by omega) (by omega)]
      simp
theorem ac_lws {eo : Nat → Option Nat} {m n : Nat} (hE : EdS S eo m n) : ACe g mX3_linesWithoutShot [.ref 1] (lay (S, O)) (some (.int (nI (cnt (fun l => decide (eo l = none)) m)))) (lay (S, O)) := by
  obtain ⟨hm, h8, h6, hE⟩ := hE
  refine acw gdX3_linesWithoutShot 60 rfl ?_
  refine dn (n := m) (P := fun i => AW g mX3_linesWithoutShot _ 0 0 4 [some (.ref 1), some (.int (nI (cnt (fun l => decide (eo l = none)) i))), some (.int (nI i))] [] (lay (S, O))) ?_ (fun i hi ih => ?_) 0 (Nat.zero_le _)
  · exact lpw gdX3_linesWithoutShot 30 ⟨fun _ => ⟨rfl, rfl⟩, fun h => absurd (by rw [hm]; exact nle (by omega) (by omega)) h⟩
  · refine lpw gdX3_linesWithoutShot 30 ⟨fun h => absurd h (by rw [hm]; exact nge (by omega) (by omega)), fun _ => ?_⟩
    refine ⟨_, _, rfl, vlit (by omega) (by decide), ?_⟩
    rw [vcl rfl (by omega)]
    have he := hE i (by omega)
    refine ⟨fun hc => awl ?_ ih, fun hc => awl ?_ ih⟩
    · rw [show s_ed (S, O).fst i = sh (eo i) from he.1, sh_none he.2 (by omega)] at hc
      rw [cnt_f (p := fun l => decide (eo l = none)) (by simp [hc]), ← nI_1]
      rfl
    · rw [show s_ed (S, O).fst i = sh (eo i) from he.1, sh_none he.2 (by omega)] at hc
      rw [cnt_t (p := fun l => decide (eo l = none)) (by simp [hc]), ← nI_1, ← nI_1]
      rfl
theorem ac_isCutAhead {eo : Nat → Option Nat} {m n l : Nat} (hE : EdS S eo m n) (hl : l + 1 < 8) : ACe g mX3_isCutAhead [.ref 1, .int (nI (l + 1))] (lay (S, O)) (some (.int (bi (ctO (eo l) (eo (l + 1)))))) (lay (S, O)) := by
  obtain ⟨hm, h8, h6, hE⟩ := hE
  have e1 : nI (l + 1) - 1 = nI l := nI_pred l
  refine acw gdX3_isCutAhead 60 rfl ?_
  refine ⟨_, _, rfl, vin e1 (by omega) (by decide), ?_⟩
  rw [vcl e1 (by omega)]
  refine ⟨_, _, rfl, vlit (by omega) (by decide), ?_⟩
  rw [vcl rfl (by omega)]
  have ha := hE l (by omega)
  have hb := hE (l + 1) (by omega)
  rw [show s_ed (S, O).fst l = sh (eo l) from ha.1, show s_ed (S, O).fst (l + 1) = sh (eo (l + 1)) from hb.1]
  refine ⟨fun h1 => ?_, fun h1 => ⟨fun h2 => ?_, fun h2 => ⟨fun h3 => ?_, fun h3 => ?_⟩⟩⟩
  · refine ⟨rfl, congrArg (fun z => some (Value.int z)) (bi_f ?_).symm, rfl⟩
    rw [sh_none ha.2 (by omega)] at h1
    rw [h1]
    rfl
  · refine ⟨rfl, congrArg (fun z => some (Value.int z)) (bi_f ?_).symm, rfl⟩
    rw [sh_none hb.2 (by omega)] at h2
    rw [h2]
    cases eo l <;> rfl
  · refine ⟨rfl, congrArg (fun z => some (Value.int z)) (bi_f ?_).symm, rfl⟩
    exact (sh_eq ha.2 hb.2 (by omega) (fun z => h1 ((sh_none ha.2 (by omega)).mpr z)) (fun z => h2 ((sh_none hb.2 (by omega)).mpr z))).mp h3
  · refine ⟨rfl, congrArg (fun z => some (Value.int z)) (bi_t ?_).symm, rfl⟩
    have h4 := fun z => h3 ((sh_eq ha.2 hb.2 (by omega) (fun z => h1 ((sh_none ha.2 (by omega)).mpr z)) (fun z => h2 ((sh_none hb.2 (by omega)).mpr z))).mpr z)
    simpa using h4
theorem ac_cuts {eo : Nat → Option Nat} {m n : Nat} (hE : EdS S eo m n) : ACe g mX3_cuts [.ref 1] (lay (S, O)) (some (.int (nI (cnt (fun l => ctO (eo l) (eo (l + 1))) (m - 1))))) (lay (S, O)) := by
  have hm := hE.1
  have h8 := hE.2.1
  refine acw gdX3_cuts 60 rfl ?_
  refine dn (n := m - 1) (P := fun i => AW g mX3_cuts _ 0 0 4 [some (.ref 1), some (.int (nI (cnt (fun l => ctO (eo l) (eo (l + 1))) i))), some (.int (nI (i + 1)))] [] (lay (S, O))) ?_ (fun i hi ih => ?_) 0 (Nat.zero_le _)
  · exact lpw gdX3_cuts 30 ⟨fun _ => ⟨rfl, rfl⟩, fun h => absurd (by rw [hm]; exact nle (by omega) (by omega)) h⟩
  · refine lpw gdX3_cuts 30 ⟨fun h => absurd h (by rw [hm]; exact nge (by omega) (by omega)), fun _ => ?_⟩
    refine ac_to (ac_isCutAhead hE (by omega)) ⟨fun hc => awl ?_ ih, fun hc => awl ?_ ih⟩
    · rw [cnt_f (p := fun l => ctO (eo l) (eo (l + 1))) ((bi_e0 _).mp hc), ← nI_1 (i + 1)]
      rfl
    · rw [cnt_t (p := fun l => ctO (eo l) (eo (l + 1))) (by simpa [bi_e0] using hc), ← nI_1 (i + 1), ← nI_1 (cnt _ i)]
      rfl
theorem ac_doubleReactions {eo : Nat → Option Nat} {m n : Nat} (hE : EdS S eo m n) : ACe g mX3_doubleReactions [.ref 1] (lay (S, O)) (some (.int (nI (cnt (fun l => reO (s_fc S) (s_sp S) l (eo l) && reO (s_fc S) (s_sp S) (l + 1) (eo (l + 1))) (m - 1))))) (lay (S, O)) := by
  obtain ⟨hm, h8, h6, hE⟩ := hE
  refine acw gdX3_doubleReactions 60 rfl ?_
  refine dn (n := m - 1) (P := fun i => AW g mX3_doubleReactions _ 0 0 4 [some (.ref 1), some (.int (nI (cnt (fun l => reO (s_fc S) (s_sp S) l (eo l) && reO (s_fc S) (s_sp S) (l + 1) (eo (l + 1))) i))), some (.int (nI (i + 1)))] [] (lay (S, O))) ?_ (fun i hi ih => ?_) 0 (Nat.zero_le _)
  · exact lpw gdX3_doubleReactions 40 ⟨fun _ => ⟨rfl, rfl⟩, fun h => absurd (by rw [hm]; exact nle (by omega) (by omega)) h⟩
  · refine lpw gdX3_doubleReactions 40 ⟨fun h => absurd h (by rw [hm]; exact nge (by omega) (by omega)), fun _ => ?_⟩
    have e1 : nI (i + 1) - 1 = nI i := nI_pred i
    have ha := hE i (by omega)
    have hb := hE (i + 1) (by omega)
    refine ⟨_, _, rfl, vin e1 (by omega) (by decide), ?_⟩
    rw [vcl e1 (by omega), show s_ed (S, O).fst i = sh (eo i) from ha.1, e1]
    refine ac_to (ac_isReaction (by omega) (fun s hs => Nat.lt_of_lt_of_le (ha.2 s hs) h6)) ⟨fun hc => awl ?_ ih, fun hc => ?_⟩
    · rw [bi_e0] at hc
      rw [cnt_f (p := fun l => reO (s_fc S) (s_sp S) l (eo l) && reO (s_fc S) (s_sp S) (l + 1) (eo (l + 1))) (by simp [hc]), ← nI_1 (i + 1)]
      rfl
    refine ⟨_, _, rfl, vlit (by omega) (by decide), ?_⟩
    rw [vcl rfl (by omega), show s_ed (S, O).fst (i + 1) = sh (eo (i + 1)) from hb.1]
    rw [bi_e0, Bool.not_eq_false] at hc
    refine ac_to (ac_isReaction (by omega) (fun s hs => Nat.lt_of_lt_of_le (hb.2 s hs) h6)) ⟨fun hd => awl ?_ ih, fun hd => awl ?_ ih⟩
    · rw [bi_e0] at hd
      rw [cnt_f (p := fun l => reO (s_fc S) (s_sp S) l (eo l) && reO (s_fc S) (s_sp S) (l + 1) (eo (l + 1))) (by simp [hd]), ← nI_1 (i + 1)]
      rfl
    · rw [bi_e0, Bool.not_eq_false] at hd
      rw [cnt_t (p := fun l => reO (s_fc S) (s_sp S) l (eo l) && reO (s_fc S) (s_sp S) (l + 1) (eo (l + 1))) (by simp [hc, hd]), ← nI_1 (i + 1), ← nI_1 (cnt _ i)]
      rfl
theorem ac_wrongCuts {eo : Nat → Option Nat} {m n : Nat} (hE : EdS S eo m n) (hp : Okp (s_pl S)) (hf : Okf (s_fc S) n) : ACe g mX3_wrongCuts [.ref 1] (lay (S, O)) (some (.int (nI (cnt (fun l => ctO (eo l) (eo (l + 1)) && !cnO (s_pl S) (s_fc S) (eo l) (eo (l + 1))) (m - 1))))) (lay (S, O)) := by
  have hE0 := hE
  obtain ⟨hm, h8, h6, hE⟩ := hE
  refine acw gdX3_wrongCuts 60 rfl ?_
  refine dn (n := m - 1) (P := fun i => AW g mX3_wrongCuts _ 0 0 4 [some (.ref 1), some (.int (nI (cnt (fun l => ctO (eo l) (eo (l + 1)) && !cnO (s_pl S) (s_fc S) (eo l) (eo (l + 1))) i))), some (.int (nI (i + 1)))] [] (lay (S, O))) ?_ (fun i hi ih => ?_) 0 (Nat.zero_le _)
  · exact lpw gdX3_wrongCuts 40 ⟨fun _ => ⟨rfl, rfl⟩, fun h => absurd (by rw [hm]; exact nle (by omega) (by omega)) h⟩
  · refine lpw gdX3_wrongCuts 40 ⟨fun h => absurd h (by rw [hm]; exact nge (by omega) (by omega)), fun _ => ?_⟩
    have e1 : nI (i + 1) - 1 = nI i := nI_pred i
    have ha := hE i (by omega)
    have hb := hE (i + 1) (by omega)
    refine ac_to (ac_isCutAhead hE0 (by omega)) ⟨fun hc => awl ?_ ih, fun hc => ?_⟩
    · rw [bi_e0] at hc
      rw [cnt_f (p := fun l => ctO (eo l) (eo (l + 1)) && !cnO (s_pl S) (s_fc S) (eo l) (eo (l + 1))) (by simp [hc]), ← nI_1 (i + 1)]
      rfl
    rw [bi_e0, Bool.not_eq_false] at hc
    refine ⟨_, _, rfl, vin e1 (by omega) (by decide), ?_⟩
    rw [vcl e1 (by omega), show s_ed (S, O).fst i = sh (eo i) from ha.1]
    refine ⟨_, _, rfl, vlit (by omega) (by decide), ?_⟩
    rw [vcl rfl (by omega), show s_ed (S, O).fst (i + 1) = sh (eo (i + 1)) from hb.1]
    obtain ⟨s, hs⟩ : ∃ s, eo i = some s := by
      cases h : eo i with
      | none =>
        rw [h] at hc
        cases h2 : eo (i + 1) <;> (rw [h2] at hc; cases hc)
      | some s => exact ⟨s, rfl⟩
    obtain ⟨t, ht⟩ : ∃ t, eo (i + 1) = some t := by
      cases h : eo (i + 1) with
      | none =>
        rw [h] at hc
        cases h2 : eo i <;> (rw [h2] at hc; cases hc)
      | some s => exact ⟨s, rfl⟩
    rw [hs, ht]
    refine ac_to (ac_canBeCut (ha.2 s hs) (hb.2 t ht) h6 hp hf) ⟨fun hd => awl ?_ ih, fun hd => awl ?_ ih⟩
    · rw [bi_e0, Bool.not_eq_false] at hd
      rw [cnt_f (p := fun l => ctO (eo l) (eo (l + 1)) && !cnO (s_pl S) (s_fc S) (eo l) (eo (l + 1))) (by simp [hs, ht, cnO, hd]), ← nI_1 (i + 1)]
      rfl
    · rw [bi_e0] at hd
      rw [cnt_t (p := fun l => ctO (eo l) (eo (l + 1)) && !cnO (s_pl S) (s_fc S) (eo l) (eo (l + 1))) (by rw [hs, ht] at hc ⊢; simp [cnO, hd, hc]), ← nI_1 (i + 1), ← nI_1 (cnt _ i)]
      rfl
theorem ac_shotsUsed {eo : Nat → Option Nat} {m n : Nat} (hE : EdS S eo m n) : ACe g mX3_shotsUsed [.ref 1] (lay (S, O)) (some (.int (nI (pop6 (usd eo m))))) (lay (S, O)) := by
  obtain ⟨hm, h8, h6, hE⟩ := hE
  have hu : ∀ i, i ≤ m → usd eo i < 64 := usd_lt (m := m) (fun l hl s hs => Nat.lt_of_lt_of_le ((hE l (by omega)).2 s hs) h6)
  refine acw gdX3_shotsUsed 60 rfl ?_
  refine dn (n := m) (P := fun i => AW g mX3_shotsUsed _ 0 0 4 [some (.ref 1), some (.int (nI (usd eo i))), some (.int (nI i))] [] (lay (S, O))) ?_ (fun i hi ih => ?_) 0 (Nat.zero_le _)
  · refine lpw gdX3_shotsUsed 40 ⟨fun _ => ?_, fun h => absurd (by rw [hm]; exact nle (by omega) (by omega)) h⟩
    refine ac_to (ac_bitCount _ _) ⟨?_, rfl⟩
    rw [bc_fin _ (hu m (Nat.le_refl m))]
  · refine lpw gdX3_shotsUsed 40 ⟨fun h => absurd h (by rw [hm]; exact nge (by omega) (by omega)), fun _ => ?_⟩
    have ha := hE i (by omega)
    refine ⟨_, _, rfl, vlit (by omega) (by decide), ?_⟩
    rw [vcl rfl (by omega), show s_ed (S, O).fst i = sh (eo i) from ha.1]
    cases hs : eo i with
    | none =>
      refine ⟨fun _ => awl ?_ ih, fun h => absurd rfl h⟩
      rw [show usd eo (i + 1) = usd eo i by simp [usd, hs], ← nI_1]
      rfl
    | some s =>
      have h1 := ha.2 s hs
      refine ⟨fun h => absurd h (nI_ne9 (by omega)), fun _ => ?_⟩
      refine ⟨_, _, rfl, vlit (by omega) (by decide), ?_⟩
      rw [vcl rfl (by omega), show s_ed (S, O).fst i = sh (eo i) from ha.1, hs]
      refine awl ?_ ih
      rw [show usd eo (i + 1) = usd eo i ||| 2 ^ s by simp [usd, hs], ← (or_lt _ (hu i (by omega)) s (by omega)).2, ← nI_1]
      rfl
end SC2
end
section
def lkS (pl fc : Fn) (s k : Nat) : Int32 := if k = 2 then sdA pl fc s else fc (7 * s + (2 + k))
def allB (p : Nat → Bool) : Nat → Bool
  | 0 => true
  | n + 1 => allB p n && p n
theorem allB_no {p : Nat → Bool} {i n : Nat} (hi : i < n) (h : p i = false) : allB p n = false := by
  induction n with
  | zero => omega
  | succ n ih =>
    unfold allB
    by_cases h2 : i = n
    · subst h2; simp [h]
    · simp [ih (by omega)]
def soA (pl fc : Fn) (kw : Nat → Nat) (nu : Fn) (q s : Nat) : Bool := allB (fun j => decide (lkS pl fc s (kw j) = nu j)) q
section SG
variable {g : Glob} {S : Scn} {O : Oth}
theorem ac_look {s n k : Nat} (hs : s < n) (hn : n ≤ 6) (hk : k ≤ 2) (hp : Okp (s_pl S)) (hf : Okf (s_fc S) n) : ACe g mX4_look [.ref 79, .ref 1, .int (nI s), .int (nI k)] (lay (S, O)) (some (.int (lkS (s_pl S) (s_fc S) s k))) (lay (S, O)) := by
  refine acw gdX4_look 40 rfl ?_
  refine ⟨fun h1 => ?_, fun h1 => ?_⟩
  · have h2 : ¬ k = 2 := fun z => h1 (by rw [z]; rfl)
    refine ⟨fun h3 => ?_, fun h3 => ?_⟩
    · have h4 : ¬ k = 0 := fun z => h3 (by rw [z]; rfl)
      obtain rfl : k = 1 := by omega
      exact ac_to (ac_fact (w := 3) (by omega) (by decide)) ⟨rfl, rfl⟩
    · have h4 : k = 0 := (neqI (by omega) (by decide)).mp h3
      subst h4
      exact ac_to (ac_fact (w := 2) (by omega) (by decide)) ⟨rfl, rfl⟩
  · have h2 : k = 2 := (neqI (by omega) (by decide)).mp h1
    subst h2
    exact ac_to (ac_side hs hn hp hf) ⟨rfl, rfl⟩
theorem ac_fits {s n q : Nat} {kw : Nat → Nat} (hs : s < n) (hn : n ≤ 6) (hp : Okp (s_pl S)) (hf : Okf (s_fc S) n) (hq : q_sn (o_G O) = nI q) (hq6 : q ≤ 6) (hk : ∀ j, j < q → q_wh (o_G O) j = nI (kw j) ∧ kw j ≤ 2) : ACe g mX4_fits [.ref 79, .ref 1, .int (nI s)] (lay (S, O)) (some (.int (bi (soA (s_pl S) (s_fc S) kw (q_nu (o_G O)) q s)))) (lay (S, O)) := by
  refine acw gdX4_fits 40 rfl ?_
  refine dn (n := q) (P := fun i => allB (fun j => decide (lkS (s_pl S) (s_fc S) s (kw j) = q_nu (o_G O) j)) i = true → AW g mX4_fits _ 0 0 2 [some (.ref 79), some (.ref 1), some (.int (nI s)), some (.int (nI i))] [] (lay (S, O))) ?_ (fun i hi ih => ?_) 0 (Nat.zero_le _) rfl
  · intro hA
    refine lpw gdX4_fits 40 ⟨fun _ => ?_, fun h => absurd (by rw [hq]; exact nle (by omega) (by omega)) h⟩
    exact ⟨rfl, congrArg (fun z => some (Value.int z)) (bi_t hA).symm, rfl⟩
  · intro hA
    refine lpw gdX4_fits 40 ⟨fun h => absurd h (by rw [hq]; exact nge (by omega) (by omega)), fun _ => ?_⟩
    obtain ⟨k1, k2⟩ := hk i hi
    refine ⟨_, _, rfl, vlit (by omega) (by decide), ?_⟩
    rw [vcl rfl (by omega), show q_wh (o_G (S, O).snd) i = nI (kw i) from k1]
    refine ac_to (ac_look hs hn k2 hp hf) ?_
    refine ⟨_, _, rfl, vlit (by omega) (by decide), ?_⟩
    rw [vcl rfl (by omega)]
    refine ⟨fun hc => awl ?_ (ih ?_), fun hc => ?_⟩
    · rw [← nI_1]
      rfl
    · have hc2 : lkS (s_pl S) (s_fc S) s (kw i) = q_nu (o_G O) i := hc
      simp [allB, hA, hc2]
    · refine ⟨rfl, congrArg (fun z => some (Value.int z)) (bi_f ?_).symm, rfl⟩
      have hc2 : ¬ lkS (s_pl S) (s_fc S) s (kw i) = q_nu (o_G O) i := hc
      exact allB_no hi (by simp [hc2])
theorem ac_fitting {n q : Nat} {kw : Nat → Nat} (hns : s_ns S = nI n) (hn : n ≤ 6) (hp : Okp (s_pl S)) (hf : Okf (s_fc S) n) (hq : q_sn (o_G O) = nI q) (hq6 : q ≤ 6) (hk : ∀ j, j < q → q_wh (o_G O) j = nI (kw j) ∧ kw j ≤ 2) : ACe g mX4_fitting [.ref 79, .ref 1] (lay (S, O)) (some (.int (nI (msk (soA (s_pl S) (s_fc S) kw (q_nu (o_G O)) q) n)))) (lay (S, O)) := by
  refine acw gdX4_fitting 60 rfl ?_
  refine dn (n := n) (P := fun i => AW g mX4_fitting _ 0 0 4 [some (.ref 79), some (.ref 1), some (.int (nI (msk (soA (s_pl S) (s_fc S) kw (q_nu (o_G O)) q) i))), some (.int (nI i))] [] (lay (S, O))) ?_ (fun i hi ih => ?_) 0 (Nat.zero_le _)
  · exact lpw gdX4_fitting 30 ⟨fun _ => ⟨rfl, rfl⟩, fun h => absurd (by rw [hns]; exact nle (by omega) (by omega)) h⟩
  · refine lpw gdX4_fitting 30 ⟨fun h => absurd h (by rw [hns]; exact nge (by omega) (by omega)), fun _ => ?_⟩
    refine ac_to (ac_fits hi hn hp hf hq hq6 hk) ⟨fun hc => awl ?_ ih, fun hc => awl ?_ ih⟩
    · rw [msk_no ((bi_e0 _).mp hc), ← nI_1]
      rfl
    · rw [← msk_or (by omega) (by simpa [bi_e0] using hc), ← nI_1]
      rfl
/-! what is asked of the class, that needs no more -/
theorem ac_cplayer (a b : Int32) (ha : ¬ a < 0) (hb : ¬ 1 < a) (hc : ¬ b < 0) (hd : ¬ 1 < b) : ∃ p k : Nat, p < 2 ∧ k < 2 ∧ a = nI p ∧ b = nI k ∧ ACe g mX5_player [.ref 0, .int a, .int b] (lay (S, O)) (some (.int (s_pl S (2 * p + k)))) (lay (S, O)) := by
  obtain ⟨p, hp, rfl⟩ := nI_of2 (M := 1) (n := 1) (by decide) ha (Int32.not_lt.mp hb)
  obtain ⟨k, hk, rfl⟩ := nI_of2 (M := 1) (n := 1) (by decide) hc (Int32.not_lt.mp hd)
  refine ⟨p, k, by omega, by omega, rfl, rfl, ?_⟩
  refine acw gdX5_player 40 rfl ?_
  have e : 2 * nI p + nI k = nI (2 * p + k) := by simp only [nlit, pk_mul, nI_add]
  refine ⟨fun h => absurd h ha, fun _ => ⟨fun h => absurd h hb, fun _ => ⟨fun h => absurd h hc, fun _ => ⟨fun _ => ?_, fun h => absurd (Int32.not_lt.mp hd) h⟩⟩⟩⟩
  refine ⟨_, _, rfl, vin e (by omega) (by decide), ?_⟩
  rw [vcl e (by omega)]
  exact ⟨rfl, rfl⟩
theorem ac_cplayer_bad (a b : Int32) (h : a < 0 ∨ 1 < a ∨ b < 0 ∨ 1 < b) : ACe g mX5_player [.ref 0, .int a, .int b] (lay (S, O)) (some (.int (-1))) (lay (S, O)) := by
  refine acw gdX5_player 40 rfl ?_
  refine ⟨fun _ => ⟨rfl, rfl⟩, fun h1 => ⟨fun _ => ⟨rfl, rfl⟩, fun h2 => ⟨fun _ => ⟨rfl, rfl⟩, fun h3 => ⟨fun h4 => ?_, fun _ => ⟨rfl, rfl⟩⟩⟩⟩⟩
  rcases h with h | h | h | h
  · exact absurd h h1
  · exact absurd h h2
  · exact absurd h h3
  · exact absurd h (Int32.not_lt.mpr h4)
theorem ac_csees_bad (a b : Int32) (h : a < 0 ∨ 2 < a ∨ b < -1 ∨ 5 < b) : ACe g mX5_sees [.ref 0, .int a, .int b] (lay (S, O)) (some (.int (-1))) (lay (S, O)) := by
  refine acw gdX5_sees 40 rfl ?_
  refine ⟨fun _ => ⟨rfl, rfl⟩, fun h1 => ⟨fun _ => ⟨rfl, rfl⟩, fun h2 => ⟨fun _ => ⟨rfl, rfl⟩, fun h3 => ⟨fun h4 => ?_, fun _ => ⟨rfl, rfl⟩⟩⟩⟩⟩
  rcases h with h | h | h | h
  · exact absurd h h1
  · exact absurd h h2
  · exact absurd h h3
  · exact absurd h (Int32.not_lt.mpr h4)
theorem ac_snote_full {a b : Int32} (hq : q_sn (o_G O) = nI 6) : ACe g mX4_note [.ref 79, .int a, .int b] (lay (S, O)) (some (.int 0)) (lay (S, O)) := by
  have e : q_sn (o_G (S, O).snd) = nI 6 := hq
  refine acw gdX4_note 40 rfl ?_
  refine ⟨fun h => ?_, fun _ => ⟨rfl, rfl, rfl⟩⟩
  rw [e] at h
  exact absurd h (by decide)
theorem ac_snote {a b : Int32} {q : Nat} (hq : q_sn (o_G O) = nI q) (h6 : q < 6) : ACe g mX4_note [.ref 79, .int a, .int b] (lay (S, O)) (some (.int 1)) (lay (S, o_G' O (upd (q_wh (o_G O)) q a, upd (q_nu (o_G O)) q b, nI (q + 1)))) := by
  have e : q_sn (o_G (S, O).snd) = nI q := hq
  refine acw gdX4_note 40 rfl ?_
  refine ⟨fun _ => ?_, fun h => ?_⟩
  · refine ⟨_, _, rfl, vin e (by omega) (by decide), ?_⟩
    refine ⟨_, _, rfl, vin e (by omega) (by decide), ?_⟩
    refine ⟨rfl, rfl, ?_⟩
    rw [vcl e (by omega), e, nI_1]
    rfl
  · rw [e] at h
    exact absurd ((nltI (by omega) (by omega)).mpr h6) h
end SG
end
section
/-! ===== the model's readers ===== -/
/-- a row's shots -/
abbrev fcr (r : Fn) : Fn := fun i => r (14 + i)
abbrev spr (r : Fn) : Fn := fun l => r (5 + l)
theorem cpy_step {f t : Fn} {i j k : Nat} : upd (va_cpy f t i j k) (j + k) (f (i + k)) = va_cpy f t i j (k + 1) := by
  funext x
  by_cases h : x = j + k
  · subst h
    rw [pk_us, pk_cpy_in (by omega) (by omega)]
    congr 1
    omega
  · rw [pk_un h]
    by_cases h2 : j ≤ x ∧ x < j + k
    · rw [pk_cpy_in h2.1 h2.2, pk_cpy_in h2.1 (by omega)]
    · rw [pk_cpy_out (by omega), pk_cpy_out (by omega)]
theorem cpy_0 {f t : Fn} {i j : Nat} : va_cpy f t i j 0 = t := by
  funext x
  exact pk_cpy_out (by omega)
theorem ac_ar {g : Glob} {M : Mth} {args args' : List Value} {h : AH} {Q : Option Value → AH → Prop} (e : args = args') (K : AC g M args' h Q) : AC g M args h Q := e ▸ K
theorem or0 (x : Int32) : x ||| 0 = x := by simp
section MR
variable {g : Glob} {S : Scn} {O : Oth}
theorem am_in (v a b : Int32) (h : AH) : ACe g mX6_in [.int v, .int a, .int b] h (some (.int (bi (!decide (v < a) && !decide (b < v))))) h := by
  refine acw gdX6_in 20 rfl ?_
  refine ⟨fun h1 => ?_, fun h1 => ⟨fun h2 => ?_, fun h2 => ?_⟩⟩
  · exact ⟨rfl, congrArg (fun z => some (Value.int z)) (bi_f (by simp [h1])).symm, rfl⟩
  · exact ⟨rfl, congrArg (fun z => some (Value.int z)) (bi_f (by simp [h2])).symm, rfl⟩
  · exact ⟨rfl, congrArg (fun z => some (Value.int z)) (bi_t (by simp [h1, h2])).symm, rfl⟩
theorem am_of {s w : Nat} (hs : s < 6) (hw : w < 7) : ACe g mX6_of [.ref 94, .int (nI s), .int (nI w)] (lay (S, O)) (some (.int (fcr (z_now (o_M O)) (7 * s + w)))) (lay (S, O)) := by
  refine acw gdX6_of 20 rfl ?_
  have e : 14 + 7 * nI s + nI w = nI (14 + (7 * s + w)) := by simp only [nlit, pk_mul, nI_add]; congr 1; omega
  refine ⟨_, _, rfl, vin e (by omega) (by decide), ?_⟩
  rw [vcl e (by omega)]
  exact ⟨rfl, rfl⟩
theorem am_isLine (l : Int32) : ACe g mX6_isLine [.ref 94, .int l] (lay (S, O)) (some (.int (bi (!decide (l < 0) && !decide (z_now (o_M O) 4 - 1 < l))))) (lay (S, O)) := by
  refine acw gdX6_isLine 30 rfl ?_
  refine ⟨_, _, rfl, vlit (j := 4) (by decide) (by decide), ?_⟩
  exact ac_to (am_in _ _ _ _) ⟨bi_n _, rfl, rfl⟩
theorem am_isShot (l : Int32) : ACe g mX6_isShot [.ref 94, .int l] (lay (S, O)) (some (.int (bi (!decide (l < 0) && !decide (z_now (o_M O) 13 - 1 < l))))) (lay (S, O)) := by
  refine acw gdX6_isShot 30 rfl ?_
  refine ⟨_, _, rfl, vlit (j := 13) (by decide) (by decide), ?_⟩
  exact ac_to (am_in _ _ _ _) ⟨bi_n _, rfl, rfl⟩
theorem am_sideOf {s : Nat} (hs : s < 6) : ACe g mX6_sideOf [.ref 94, .int (nI s)] (lay (S, O)) (some (.int (sdA (z_now (o_M O)) (fcr (z_now (o_M O))) s))) (lay (S, O)) := by
  refine acw gdX6_sideOf 80 rfl ?_
  refine ⟨_, _, rfl, vlit (j := 2) (by decide) (by decide), ?_⟩
  refine ⟨_, _, rfl, vlit (j := 0) (by decide) (by decide), ?_⟩
  refine ⟨_, _, rfl, vlit (j := 3) (by decide) (by decide), ?_⟩
  refine ⟨_, _, rfl, vlit (j := 1) (by decide) (by decide), ?_⟩
  refine ac_to (am_of (w := 0) hs (by decide)) ?_
  refine ⟨_, _, rfl, vlit (j := 0) (by decide) (by decide), ?_⟩
  refine ac_to (am_of (w := 1) hs (by decide)) ?_
  refine ⟨_, _, rfl, vlit (j := 1) (by decide) (by decide), ?_⟩
  refine ⟨fun h1 => ⟨fun h2 => ?_, fun h2 => ?_⟩, fun h1 => ?_⟩
  · refine ⟨congrArg (fun z => some (Value.int z)) ?_, rfl⟩
    unfold sdA
    exact ((if_neg (Int32.not_lt.mpr h1)).trans (if_neg (Int32.not_lt.mpr h2))).symm
  · refine ⟨congrArg (fun z => some (Value.int z)) ?_, rfl⟩
    unfold sdA
    exact ((if_neg (Int32.not_lt.mpr h1)).trans (if_pos (Int32.not_le.mp h2))).symm
  · refine ⟨congrArg (fun z => some (Value.int z)) ?_, rfl⟩
    unfold sdA
    exact (if_pos (Int32.not_le.mp h1)).symm
theorem am_wayOf {s k : Nat} (hs : s < 6) (hk : k < 2) : ACe g mX6_wayOf [.ref 94, .int (nI s), .int (nI k)] (lay (S, O)) (some (.int (wyA (z_now (o_M O)) (fcr (z_now (o_M O))) s k))) (lay (S, O)) := by
  refine acw gdX6_wayOf 80 rfl ?_
  refine ac_to (am_of hs (by omega)) ?_
  refine ⟨_, _, rfl, vlit (by omega) (by decide), ?_⟩
  rw [vcl rfl (by omega)]
  have e : 2 + nI k = nI (2 + k) := by simp only [nlit, nI_add]
  refine ⟨_, _, rfl, vin e (by omega) (by decide), ?_⟩
  rw [vcl e (by omega)]
  exact ⟨rfl, rfl⟩
theorem am_areNear {s t : Nat} (hs : s < 6) (ht : t < 6) : ACe g mX6_areNear [.ref 94, .int (nI s), .int (nI t)] (lay (S, O)) (some (.int (bi (nrA (z_now (o_M O)) (fcr (z_now (o_M O))) s t)))) (lay (S, O)) := by
  refine acw gdX6_areNear 90 rfl ?_
  refine ac_to (am_wayOf (k := 0) hs (by decide)) ?_
  refine ac_to (am_wayOf (k := 1) hs (by decide)) ?_
  refine ac_to (am_wayOf (k := 0) ht (by decide)) ?_
  refine ac_to (am_wayOf (k := 1) ht (by decide)) ?_
  refine ⟨fun h1 => ?_, fun h1 => ⟨fun h2 => ?_, fun h2 => ⟨fun h3 => ?_, fun h3 => ⟨fun h4 => ?_, fun h4 => ?_⟩⟩⟩⟩
  · exact ⟨rfl, congrArg (fun z => some (Value.int z)) (bi_t (by simp only [nrA, Bool.or_eq_true, decide_eq_true_eq]; exact Or.inl (Or.inl h1))).symm, rfl⟩
  · exact ⟨rfl, congrArg (fun z => some (Value.int z)) (bi_t (by simp only [nrA, Bool.or_eq_true, decide_eq_true_eq]; exact Or.inl (Or.inr h2))).symm, rfl⟩
  · refine ⟨rfl, congrArg (fun z => some (Value.int z)) (bi_f ?_).symm, rfl⟩
    simp only [nrA, Bool.or_eq_false_iff, decide_eq_false_iff_not, Bool.and_eq_false_iff]
    exact ⟨⟨h1, h2⟩, Or.inl (Int32.not_lt.mpr h3)⟩
  · refine ⟨rfl, congrArg (fun z => some (Value.int z)) (bi_f ?_).symm, rfl⟩
    simp only [nrA, Bool.or_eq_false_iff, decide_eq_false_iff_not, Bool.and_eq_false_iff]
    exact ⟨⟨h1, h2⟩, Or.inr (Int32.not_lt.mpr h4)⟩
  · refine ⟨rfl, congrArg (fun z => some (Value.int z)) (bi_t ?_).symm, rfl⟩
    simp only [nrA, Bool.or_eq_true, decide_eq_true_eq, Bool.and_eq_true]
    exact Or.inr ⟨Int32.not_le.mp h3, Int32.not_le.mp h4⟩
theorem am_canCut {s t : Nat} (hs : s < 6) (ht : t < 6) : ACe g mX6_canCut [.ref 94, .int (nI s), .int (nI t)] (lay (S, O)) (some (.int (bi (cnA (z_now (o_M O)) (fcr (z_now (o_M O))) s t)))) (lay (S, O)) := by
  refine acw gdX6_canCut 90 rfl ?_
  refine ac_to (am_of (w := 3) hs (by decide)) ?_
  refine ac_to (am_of (w := 3) ht (by decide)) ?_
  refine ac_to (am_of (w := 2) hs (by decide)) ?_
  refine ac_to (am_of (w := 2) ht (by decide)) ?_
  have J : ∀ (v : Int32) (b : Bool), b = lkA (z_now (o_M O)) (fcr (z_now (o_M O))) s t → v = bi b → AW g mX6_canCut (fun r h' => r = some (.int (bi (cnA (z_now (o_M O)) (fcr (z_now (o_M O))) s t))) ∧ h' = lay (S, O)) 0 0 52 [some (.ref 94), some (.int (nI s)), some (.int (nI t)), some (.int (fcr (z_now (o_M O)) (7 * s + 3) - fcr (z_now (o_M O)) (7 * t + 3))), none] [.int v] (lay (S, O)) := by
    intro v b hb hv
    refine lpw gdX6_canCut 60 ⟨fun h1 => ?_, fun h1 => ?_⟩
    · rw [neqI (by omega) (by omega)] at h1
      exact ⟨rfl, congrArg (fun z => some (Value.int z)) (bi_f (by simp [cnA, h1])).symm, rfl⟩
    rw [neqI (by omega) (by omega)] at h1
    refine ac_to (am_sideOf hs) ?_
    refine ac_to (am_sideOf ht) ?_
    refine ⟨fun h2 => ?_, fun h2 => ?_⟩
    · exact ⟨rfl, congrArg (fun z => some (Value.int z)) (bi_f (by simp [cnA, h2])).symm, rfl⟩
    refine ⟨fun h3 => ?_, fun h3 => ?_⟩
    · replace h3 : ¬ v = 0 := h3
      rw [hv, bi_e0, Bool.not_eq_false, hb] at h3
      exact ⟨rfl, congrArg (fun z => some (Value.int z)) (bi_f (by simp [cnA, h3])).symm, rfl⟩
    · replace h3 : v = 0 := h3
      rw [hv, bi_e0, hb] at h3
      exact ⟨rfl, congrArg (fun z => some (Value.int z)) (bi_t (by simp [cnA, h1, h2, h3])).symm, rfl⟩
  refine ⟨fun h1 => ?_, fun h1 => ?_⟩
  · exact J 0 false (by simp [lkA, show ¬ z_now (o_M O) (14 + (7 * s + 2)) = z_now (o_M O) (14 + (7 * t + 2)) from h1]) rfl
  refine ac_to (am_in _ _ _ _) ⟨fun h2 => ?_, fun h2 => ?_⟩
  · rw [bi_e0] at h2
    refine J 0 false ?_ rfl
    unfold lkA
    rw [show (!decide (fcr (z_now (o_M O)) (7 * s + 3) - fcr (z_now (o_M O)) (7 * t + 3) < -1) && !decide (1 < fcr (z_now (o_M O)) (7 * s + 3) - fcr (z_now (o_M O)) (7 * t + 3))) = false from h2]
    simp
  rw [bi_e0, Bool.not_eq_false] at h2
  refine ac_to (am_areNear hs ht) ⟨fun h3 => ?_, fun h3 => ?_⟩
  · rw [bi_e0] at h3
    exact J 0 false (by simp [lkA, h3]) rfl
  · rw [bi_e0, Bool.not_eq_false] at h3
    refine J 1 true ?_ rfl
    unfold lkA
    rw [show (!decide (fcr (z_now (o_M O)) (7 * s + 3) - fcr (z_now (o_M O)) (7 * t + 3) < -1) && !decide (1 < fcr (z_now (o_M O)) (7 * s + 3) - fcr (z_now (o_M O)) (7 * t + 3))) = true from h2, h3]
    simp [show z_now (o_M O) (14 + (7 * s + 2)) = z_now (o_M O) (14 + (7 * t + 2)) from h1]
theorem am_covers {s l : Nat} (hs : s < 6) : ACe g mX6_covers [.ref 94, .int (nI s), .int (nI l)] (lay (S, O)) (some (.int (bi (cvA (fcr (z_now (o_M O))) s l)))) (lay (S, O)) := by
  refine acw gdX6_covers 30 rfl ?_
  refine ac_to (am_of (w := 4) hs (by decide)) ?_
  refine ac_to (am_of (w := 5) hs (by decide)) ?_
  exact ac_to (am_in _ _ _ _) ⟨bi_n _, rfl, rfl⟩
theorem am_isReaction {l : Nat} {o : Option Nat} (hl : l < 8) (ho : okO 6 o) : ACe g mX6_isReaction [.ref 94, .int (nI l), .int (sh o)] (lay (S, O)) (some (.int (bi (reO (fcr (z_now (o_M O))) (spr (z_now (o_M O))) l o)))) (lay (S, O)) := by
  refine acw gdX6_isReaction 60 rfl ?_
  cases o with
  | none => exact ⟨fun _ => ⟨rfl, rfl, rfl⟩, fun h => absurd rfl h⟩
  | some s =>
    have hs := ho s rfl
    refine ⟨fun h => absurd h (nI_ne9 (by omega)), fun _ => ?_⟩
    refine ac_to (am_of (w := 2) hs (by decide)) ?_
    have e : 5 + nI l = nI (5 + l) := by simp only [nlit, nI_add]
    refine ⟨_, _, rfl, vin e (by omega) (by decide), ?_⟩
    rw [vcl e (by omega)]
    refine ⟨fun h1 => ?_, fun h1 => ?_⟩
    · refine ⟨rfl, congrArg (fun z => some (Value.int z)) (bi_f ?_).symm, rfl⟩
      simp only [reO, reA, decide_eq_false_iff_not]
      exact h1
    · refine ⟨rfl, congrArg (fun z => some (Value.int z)) (bi_t ?_).symm, rfl⟩
      simp only [reO, reA, decide_eq_true_eq]
      exact h1
theorem am_coversOf {n l : Nat} (hn : z_now (o_M O) 13 = nI n) (h6 : n ≤ 6) : ACe g mX6_coversOf [.ref 94, .int (nI l)] (lay (S, O)) (some (.int (nI (msk (fun s => cvA (fcr (z_now (o_M O))) s l) n)))) (lay (S, O)) := by
  have hn : z_now (o_M (S, O).snd) 13 = nI n := hn
  refine acw gdX6_coversOf 60 rfl ?_
  refine dn (n := n) (P := fun i => AW g mX6_coversOf _ 0 0 4 [some (.ref 94), some (.int (nI l)), some (.int (nI (msk (fun s => cvA (fcr (z_now (o_M O))) s l) i))), some (.int (nI i))] [] (lay (S, O))) ?_ (fun i hi ih => ?_) 0 (Nat.zero_le _)
  · refine lpw gdX6_coversOf 30 ⟨_, _, rfl, vlit (j := 13) (by decide) (by decide), ?_⟩
    exact ⟨fun _ => ⟨rfl, rfl⟩, fun h => absurd (by rw [vcl (x := 13) (j := 13) rfl (by decide), hn]; exact nle (by omega) (by omega)) h⟩
  · refine lpw gdX6_coversOf 30 ⟨_, _, rfl, vlit (j := 13) (by decide) (by decide), ?_⟩
    refine ⟨fun h => absurd h (by rw [vcl (x := 13) (j := 13) rfl (by decide), hn]; exact nge (by omega) (by omega)), fun _ => ?_⟩
    refine ac_to (am_covers (l := l) (by omega)) ⟨fun hc => awl ?_ ih, fun hc => awl ?_ ih⟩
    · rw [msk_no (p := fun s => cvA (fcr (z_now (o_M O))) s l) ((bi_e0 _).mp hc), ← nI_1]
      simp only [or0]
      rfl
    · rw [← msk_or (p := fun s => cvA (fcr (z_now (o_M O))) s l) (by omega) (by simpa [bi_e0] using hc), ← nI_1]
      rfl
theorem am_cutsOf {n s : Nat} (hs : s < n) (hn : z_now (o_M O) 13 = nI n) (h6 : n ≤ 6) : ACe g mX6_cutsOf [.ref 94, .int (nI s)] (lay (S, O)) (some (.int (nI (msk (fun t => cnA (z_now (o_M O)) (fcr (z_now (o_M O))) s t) n)))) (lay (S, O)) := by
  have hn : z_now (o_M (S, O).snd) 13 = nI n := hn
  refine acw gdX6_cutsOf 60 rfl ?_
  refine dn (n := n) (P := fun i => AW g mX6_cutsOf _ 0 0 4 [some (.ref 94), some (.int (nI s)), some (.int (nI (msk (fun t => cnA (z_now (o_M O)) (fcr (z_now (o_M O))) s t) i))), some (.int (nI i))] [] (lay (S, O))) ?_ (fun i hi ih => ?_) 0 (Nat.zero_le _)
  · refine lpw gdX6_cutsOf 30 ⟨_, _, rfl, vlit (j := 13) (by decide) (by decide), ?_⟩
    exact ⟨fun _ => ⟨rfl, rfl⟩, fun h => absurd (by rw [vcl (x := 13) (j := 13) rfl (by decide), hn]; exact nle (by omega) (by omega)) h⟩
  · refine lpw gdX6_cutsOf 30 ⟨_, _, rfl, vlit (j := 13) (by decide) (by decide), ?_⟩
    refine ⟨fun h => absurd h (by rw [vcl (x := 13) (j := 13) rfl (by decide), hn]; exact nge (by omega) (by omega)), fun _ => ?_⟩
    refine ac_to (am_canCut (by omega) (by omega)) ⟨fun hc => awl ?_ ih, fun hc => awl ?_ ih⟩
    · rw [msk_no (p := fun t => cnA (z_now (o_M O)) (fcr (z_now (o_M O))) s t) ((bi_e0 _).mp hc), ← nI_1]
      simp only [or0]
      rfl
    · rw [← msk_or (p := fun t => cnA (z_now (o_M O)) (fcr (z_now (o_M O))) s t) (by omega) (by simpa [bi_e0] using hc), ← nI_1]
      rfl
theorem am_mayFollow {l s t : Nat} (hl : l + 1 < 8) (hs : s < 6) (ht : t < 6) : ACe g mX6_mayFollow [.ref 94, .int (nI l), .int (nI s), .int (nI t)] (lay (S, O)) (some (.int (bi ((decide (s = t) || cnA (z_now (o_M O)) (fcr (z_now (o_M O))) s t) && !(reA (fcr (z_now (o_M O))) (spr (z_now (o_M O))) l s && reA (fcr (z_now (o_M O))) (spr (z_now (o_M O))) (l + 1) t))))) (lay (S, O)) := by
  have J : (decide (s = t) || cnA (z_now (o_M O)) (fcr (z_now (o_M O))) s t) = true → AW g mX6_mayFollow (fun r h' => r = some (.int (bi ((decide (s = t) || cnA (z_now (o_M O)) (fcr (z_now (o_M O))) s t) && !(reA (fcr (z_now (o_M O))) (spr (z_now (o_M O))) l s && reA (fcr (z_now (o_M O))) (spr (z_now (o_M O))) (l + 1) t)))) ∧ h' = lay (S, O)) 0 0 14 [some (.ref 94), some (.int (nI l)), some (.int (nI s)), some (.int (nI t))] [] (lay (S, O)) := by
    intro h0
    refine lpw gdX6_mayFollow 40 ?_
    refine ac_to (am_isReaction (o := some s) (by omega) (fun _ z => by cases z; exact hs)) ⟨fun h1 => ?_, fun h1 => ?_⟩
    · have h1 : reA (fcr (z_now (o_M O))) (spr (z_now (o_M O))) l s = false := (bi_e0 _).mp h1
      exact ⟨rfl, congrArg (fun z => some (Value.int z)) (bi_t (by rw [h0, h1]; rfl)).symm, rfl⟩
    have h1 : reA (fcr (z_now (o_M O))) (spr (z_now (o_M O))) l s = true := by rw [bi_e0, Bool.not_eq_false] at h1; exact h1
    refine ac_ar (by rw [nI_1]; rfl) (ac_to (am_isReaction (l := l + 1) (o := some t) (by omega) (fun _ z => by cases z; exact ht)) ⟨fun h2 => ?_, fun h2 => ?_⟩)
    · have h2 : reA (fcr (z_now (o_M O))) (spr (z_now (o_M O))) (l + 1) t = true := by rw [bi_e0, Bool.not_eq_false] at h2; exact h2
      exact ⟨rfl, congrArg (fun z => some (Value.int z)) (bi_f (by rw [h0, h1, h2]; rfl)).symm, rfl⟩
    · have h2 : reA (fcr (z_now (o_M O))) (spr (z_now (o_M O))) (l + 1) t = false := (bi_e0 _).mp h2
      exact ⟨rfl, congrArg (fun z => some (Value.int z)) (bi_t (by rw [h0, h1, h2]; rfl)).symm, rfl⟩
  refine acw gdX6_mayFollow 40 rfl ⟨fun h1 => ?_, fun h1 => ?_⟩
  · rw [neqI (by omega) (by omega)] at h1
    exact J (by simp [h1])
  rw [neqI (by omega) (by omega)] at h1
  refine ac_to (am_canCut hs ht) ⟨fun h2 => ?_, fun h2 => ?_⟩
  · rw [bi_e0] at h2
    exact ⟨rfl, congrArg (fun z => some (Value.int z)) (bi_f (by rw [h2]; simp [h1])).symm, rfl⟩
  · rw [bi_e0, Bool.not_eq_false] at h2
    exact J (by simp [h2])
end MR
end
section
/-! ===== the class's scene beside the model's row; what always holds ===== -/
def ScC (S : Scn) (r : Fn) (m n : Nat) : Prop := s_nl S = nI m ∧ s_ns S = nI n ∧ (∀ i, i < 4 → s_pl S i = r i) ∧ (∀ l, l < m → s_sp S l = r (5 + l)) ∧ (∀ i, i < 7 * n → s_fc S i = r (14 + i)) ∧ (∀ l, l < 8 → s_ed S l = r (56 + l))
def WfR (r : Fn) (eo : Nat → Option Nat) (m n : Nat) : Prop := r 4 = nI m ∧ m ≤ 8 ∧ r 13 = nI n ∧ n ≤ 6 ∧ Okp r ∧ Okf (fcr r) n ∧ (∀ l, l < 8 → r (56 + l) = sh (eo l) ∧ okO n (eo l)) ∧ (∀ l, m ≤ l → eo l = none)
def Rw (S : Scn) (r : Fn) : Prop := ∃ eo m n, ScC S r m n ∧ WfR r eo m n
def row (f : Fn) (j : Nat) : Fn := fun i => f (64 * j + i)
def iPast (O : Oth) : Prop := ∃ d x : Nat, d ≤ 8 ∧ x < 8 ∧ o_kn O = nI d ∧ z_deeds (o_M O) = nI d ∧ o_nx O = nI x ∧ ∀ j, j < d → Rw (o_P O ((x + 8 - d + j) % 8)) (row (z_past (o_M O)) j)
def iImg (O : Oth) : Prop := ∀ k, k < 2 → o_kp O k = z_kept (o_M O) k ∧ (o_kp O k = 0 ∨ (o_kp O k = 1 ∧ Rw (o_I O k) (row (z_img (o_M O)) k)))
def iTxt (O : Oth) : Prop := ∃ t : Nat, t ≤ 160 ∧ r_len (o_R O) = nI t ∧ z_let (o_M O) = nI t ∧ ∀ i, i < t → ∃ c : Nat, c ≤ 255 ∧ r_t (o_R O) i = nI c ∧ z_text (o_M O) i = nI c
def iSee (O : Oth) : Prop := ∃ (q : Nat) (kw : Nat → Nat), q ≤ 6 ∧ q_sn (o_G O) = nI q ∧ z_seen (o_M O) = nI q ∧ ∀ j, j < q → q_wh (o_G O) j = nI (kw j) ∧ kw j ≤ 2 ∧ z_sw (o_M O) j = nI (kw j) ∧ z_si (o_M O) j = q_nu (o_G O) j
def Inv (X : St) : Prop := Rw X.1 (z_now (o_M X.2)) ∧ iPast X.2 ∧ iImg X.2 ∧ iTxt X.2 ∧ iSee X.2
def Pr (g : Glob) (Mx Mm : Mth) (as : List Value) : Prop := ∀ X : St, Inv X → ∃ (v : Int32) (X1 X2 : St), ACe g Mx (.ref 0 :: as) (lay X) (some (.int v)) (lay X1) ∧ ACe g Mm (.ref 94 :: as) (lay X1) (some (.int v)) (lay X2) ∧ Inv X2
/-! one side's words are the other's -/
section CG
variable {S : Scn} {r : Fn} {m n : Nat} {eo : Nat → Option Nat}
theorem ScC.okp (h : ScC S r m n) (w : WfR r eo m n) : Okp (s_pl S) := fun i hi => by rw [h.2.2.1 i hi]; exact w.2.2.2.2.1 i hi
theorem ScC.okf (h : ScC S r m n) (w : WfR r eo m n) : Okf (s_fc S) n := fun s hs k hk => by rw [h.2.2.2.2.1 (7 * s + k) (by omega)]; exact w.2.2.2.2.2.1 s hs k hk
theorem ScC.ed (h : ScC S r m n) (w : WfR r eo m n) : EdS S eo m n := ⟨h.1, w.2.1, w.2.2.2.1, fun l hl => ⟨by rw [h.2.2.2.2.2 l hl]; exact (w.2.2.2.2.2.2.1 l hl).1, (w.2.2.2.2.2.2.1 l hl).2⟩⟩
theorem ScC.sd (h : ScC S r m n) {s : Nat} (hs : s < n) : sdA (s_pl S) (s_fc S) s = sdA r (fcr r) s := by
  unfold sdA fcr
  rw [h.2.2.1 0 (by decide), h.2.2.1 1 (by decide), h.2.2.1 2 (by decide), h.2.2.1 3 (by decide), h.2.2.2.2.1 (7 * s) (by omega), h.2.2.2.2.1 (7 * s + 1) (by omega)]
theorem ScC.wy (h : ScC S r m n) {s k : Nat} (hs : s < n) (hk : k < 2) : wyA (s_pl S) (s_fc S) s k = wyA r (fcr r) s k := by
  unfold wyA fcr
  rw [h.2.2.1 k (by omega), h.2.2.1 (2 + k) (by omega), h.2.2.2.2.1 (7 * s + k) (by omega)]
theorem ScC.cn (h : ScC S r m n) {s t : Nat} (hs : s < n) (ht : t < n) : cnA (s_pl S) (s_fc S) s t = cnA r (fcr r) s t := by
  unfold cnA lkA nrA
  rw [h.sd hs, h.sd ht, h.wy hs (k := 0) (by decide), h.wy hs (k := 1) (by decide), h.wy ht (k := 0) (by decide), h.wy ht (k := 1) (by decide), h.2.2.2.2.1 (7 * s + 2) (by omega), h.2.2.2.2.1 (7 * t + 2) (by omega), h.2.2.2.2.1 (7 * s + 3) (by omega), h.2.2.2.2.1 (7 * t + 3) (by omega)]
theorem ScC.cv (h : ScC S r m n) {s l : Nat} (hs : s < n) : cvA (s_fc S) s l = cvA (fcr r) s l := by
  unfold cvA fcr
  rw [h.2.2.2.2.1 (7 * s + 4) (by omega), h.2.2.2.2.1 (7 * s + 5) (by omega)]
theorem ScC.re (h : ScC S r m n) {s l : Nat} (hs : s < n) (hl : l < m) : reA (s_fc S) (s_sp S) l s = reA (fcr r) (spr r) l s := by
  unfold reA fcr spr
  rw [h.2.2.2.2.1 (7 * s + 2) (by omega), h.2.2.2.1 l hl]
theorem ScC.ro (h : ScC S r m n) {o : Option Nat} {l : Nat} (ho : okO n o) (hl : l < m) : reO (s_fc S) (s_sp S) l o = reO (fcr r) (spr r) l o := by
  cases o with
  | none => rfl
  | some s => exact h.re (ho s rfl) hl
theorem ScC.co (h : ScC S r m n) {a b : Option Nat} (ha : okO n a) (hb : okO n b) : cnO (s_pl S) (s_fc S) a b = cnO r (fcr r) a b := by
  cases a with
  | none => rfl
  | some s =>
    cases b with
    | none => rfl
    | some t => exact h.cn (ha s rfl) (hb t rfl)
end CG
theorem msk_cg {p q : Nat → Bool} : ∀ n, (∀ s, s < n → p s = q s) → msk p n = msk q n := by
  intro n
  induction n with
  | zero => intro _; rfl
  | succ n ih => intro h; unfold msk; rw [ih (fun s hs => h s (by omega)), h n (by omega)]
theorem cnt_cg {p q : Nat → Bool} : ∀ n, (∀ s, s < n → p s = q s) → cnt p n = cnt q n := by
  intro n
  induction n with
  | zero => intro _; rfl
  | succ n ih => intro h; unfold cnt; rw [ih (fun s hs => h s (by omega)), h n (by omega)]
theorem allB_cg {p q : Nat → Bool} : ∀ n, (∀ s, s < n → p s = q s) → allB p n = allB q n := by
  intro n
  induction n with
  | zero => intro _; rfl
  | succ n ih => intro h; unfold allB; rw [ih (fun s hs => h s (by omega)), h n (by omega)]
/-- a number is below 0, too large, or the j-th -/
theorem ix (x : Int32) {n : Nat} (hn : n ≤ 2000) : x < 0 ∨ nI n ≤ x ∨ ∃ j : Nat, j < n ∧ x = nI j := pk_ix x (by omega)
theorem nlt0 (j : Nat) (h : j ≤ 2000) : ¬ nI j < 0 := nI_pos (by omega)
theorem toI_lit {n : Nat} (h : n ≤ 2000) : (nI n).toInt = n := nI_toInt (by omega)
theorem le_pred {x : Int32} {n : Nat} (hn : n ≤ 2000) : nI n - 1 < x ↔ nI n ≤ x := by
  have h1 : (nI n - 1).toInt = (n : Int) - 1 := by
    have := pk_sub_toInt (a := n) (b := 1) (by omega) (by omega)
    exact this
  rw [Int32.lt_iff_toInt_lt, Int32.le_iff_toInt_le, h1, toI_lit hn]
  omega
section P1
variable {g : Glob} {S : Scn} {O : Oth}
theorem ac_takeLetter {t : Nat} {c : Int32} (hl : r_len (o_R O) = nI t) (ht : t < 160) : ACe g mX2_takeLetter [.ref 53, .int c] (lay (S, O)) (some (.int 1)) (lay (S, o_R' O (r_len' (r_t' (o_R O) (upd (r_t (o_R O)) t c)) (nI (t + 1))))) := by
  have e : r_len (o_R (S, O).snd) = nI t := hl
  refine acw gdX2_takeLetter 40 rfl ⟨fun h => ?_, fun h => ?_⟩
  · refine ⟨_, _, rfl, vin e (by omega) (by decide), ?_⟩
    refine ⟨rfl, rfl, ?_⟩
    rw [vcl e (by omega), e, nI_1]
    rfl
  · rw [e] at h
    exact absurd ((nltI (b := 160) (by omega) (by omega)).mpr ht) h
theorem ac_takeLetter_full {c : Int32} (hl : r_len (o_R O) = nI 160) : ACe g mX2_takeLetter [.ref 53, .int c] (lay (S, O)) (some (.int 0)) (lay (S, O)) := by
  have e : r_len (o_R (S, O).snd) = nI 160 := hl
  refine acw gdX2_takeLetter 40 rfl ⟨fun h => ?_, fun h => ⟨rfl, rfl, rfl⟩⟩
  rw [e] at h
  exact absurd h (by decide)
theorem pr_type (c : Int32) : Pr g mX5_type mX6_type [.int c] := by
  rintro ⟨S, O⟩ ⟨i1, i2, i3, ⟨t, ht, hl, hl2, htx⟩, i5⟩
  by_cases hc : c < 0 ∨ 255 < c
  · refine ⟨-1, (S, O), (S, O), ?_, ?_, ⟨i1, i2, i3, ⟨t, ht, hl, hl2, htx⟩, i5⟩⟩
    · refine acw gdX5_type 40 rfl ⟨fun _ => ⟨rfl, rfl⟩, fun h1 => ⟨fun h2 => ?_, fun _ => ⟨rfl, rfl⟩⟩⟩
      rcases hc with hc | hc
      · exact absurd hc h1
      · exact absurd hc (Int32.not_lt.mpr h2)
    · refine acw gdX6_type 40 rfl (ac_to (am_in _ _ _ _) ⟨fun h1 => ?_, fun _ => ⟨rfl, rfl⟩⟩)
      rw [bi_e0, Bool.not_eq_false] at h1
      simp only [Bool.and_eq_true, Bool.not_eq_true', decide_eq_false_iff_not] at h1
      rcases hc with hc | hc
      · exact absurd hc h1.1
      · exact absurd hc h1.2
  have hc1 : ¬ c < 0 := fun z => hc (Or.inl z)
  have hc2 : ¬ 255 < c := fun z => hc (Or.inr z)
  have hin : (!decide (c < 0) && !decide (255 < c)) = true := by simp [hc1, hc2]
  obtain ⟨k, hk, rfl⟩ := nI_of2 (M := 255) (n := 255) (by decide) hc1 (Int32.not_lt.mp hc2)
  by_cases h160 : t = 160
  · subst h160
    refine ⟨-3, (S, O), (S, O), ?_, ?_, ⟨i1, i2, i3, ⟨_, ht, hl, hl2, htx⟩, i5⟩⟩
    · refine acw gdX5_type 40 rfl ⟨fun h => absurd h hc1, fun h1 => ⟨fun h2 => ?_, fun h2 => absurd (Int32.not_lt.mp hc2) h2⟩⟩
      exact ac_to (ac_takeLetter_full hl) ⟨fun _ => ⟨rfl, rfl⟩, fun h => absurd rfl h⟩
    · refine acw gdX6_type 40 rfl (ac_to (am_in _ _ _ _) ⟨fun h1 => ?_, fun h1 => absurd h1 (by rw [hin]; decide)⟩)
      have e : z_let (o_M (S, O).snd) = nI 160 := hl2
      refine ⟨fun h => absurd e h, fun _ => ⟨rfl, rfl⟩⟩
  · refine ⟨nI (t + 1), (S, o_R' O (r_len' (r_t' (o_R O) (upd (r_t (o_R O)) t (nI k))) (nI (t + 1)))), (S, o_M' (o_R' O (r_len' (r_t' (o_R O) (upd (r_t (o_R O)) t (nI k))) (nI (t + 1)))) (z_let' (z_text' (o_M O) (upd (z_text (o_M O)) t (nI k))) (nI (t + 1)))), ?_, ?_, ⟨i1, i2, i3, ⟨t + 1, by omega, rfl, rfl, ?_⟩, i5⟩⟩
    · refine acw gdX5_type 40 rfl ⟨fun h => absurd h hc1, fun h1 => ⟨fun h2 => ?_, fun h2 => absurd (Int32.not_lt.mp hc2) h2⟩⟩
      exact ac_to (ac_takeLetter hl (by omega)) ⟨fun h => absurd h (by decide), fun _ => ⟨rfl, rfl⟩⟩
    · refine acw gdX6_type 40 rfl (ac_to (am_in _ _ _ _) ⟨fun h1 => ?_, fun h1 => absurd h1 (by rw [hin]; decide)⟩)
      have e : z_let (o_M O) = nI t := hl2
      refine ⟨fun _ => ?_, fun h => absurd ((neqI (b := 160) (by omega) (by omega)).mp (e.symm.trans h)) h160⟩
      refine ⟨_, _, rfl, vin e (by omega) (by decide), ?_⟩
      refine ⟨?_, ?_⟩
      · show some (Value.int (z_let (o_M O) + 1)) = _
        rw [e, nI_1]
      · rw [vcl e (by omega)]
        show List.set (List.set (lay _) 100 _) 94 (.inr (6, [_, _, _, _, _, _, _, .int (z_let (o_M O) + 1), _, _, _, _, _, _, _, _, _, _, _, _, _, _, _])) = _
        rw [e, nI_1]
        rfl
    · intro i hi
      by_cases h : i = t
      · subst h
        exact ⟨k, hk, pk_us, pk_us⟩
      · obtain ⟨c, hc, z1, z2⟩ := htx i (by omega)
        exact ⟨c, hc, by show upd _ _ _ _ = _; rw [pk_un h]; exact z1, by show upd _ _ _ _ = _; rw [pk_un h]; exact z2⟩
end P1
end
section
def subL : List (Option Value) → List (Option Value) → Prop
  | [], _ => True
  | none :: a, [] => subL a []
  | none :: a, _ :: b => subL a b
  | some v :: a, some w :: b => v = w ∧ subL a b
  | some _ :: _, none :: _ => False
  | some _ :: _, [] => False
theorem subL_get : ∀ (a b : List (Option Value)), subL a b → ∀ (k : Nat) (v : Value), a[k]? = some (some v) → b[k]? = some (some v) := by
  intro a
  induction a with
  | nil => intro b _ k v h; simp at h
  | cons x a ih =>
    intro b hb k v h
    cases x with
    | none =>
      cases b with
      | nil =>
        cases k with
        | zero => simp at h
        | succ k =>
          have := ih [] hb k v (by simpa using h)
          simp at this
      | cons y b =>
        cases k with
        | zero => simp at h
        | succ k => simpa using ih b hb k v (by simpa using h)
    | some w =>
      cases b with
      | nil => exact hb.elim
      | cons y b =>
        cases y with
        | none => exact hb.elim
        | some z =>
          obtain ⟨rfl, hb⟩ := hb
          cases k with
          | zero => simpa using h
          | succ k => simpa using ih b hb k v (by simpa using h)
theorem awf {g : Glob} {M : Mth} {Post : Option Value → AH → Prop} {cl sl pc : Nat} {ls ls' : List (Option Value)} {st : List Value} {h : AH} (e : subL ls' ls) (k : AW g M Post cl sl pc ls' st h) : AW g M Post cl sl pc ls st h := by
  intro p e0 s m args below meth c H locs lsA al0 n0 al C ha hw hl
  exact k p e0 s m args below meth c H locs lsA al0 n0 al C ha hw ⟨hl.1, hl.2.1, fun k v hk => hl.2.2 k v (subL_get _ _ e k v hk)⟩
theorem bit_at : ∀ u : Nat, u < 64 → ∀ i : Nat, i < 6 → (nI u >>> (nI i &&& 31)) &&& 1 = nI (u / 2 ^ i % 2) := by decide +kernel
def popi (u : Nat) : Nat → Nat
  | 0 => 0
  | i + 1 => popi u i + u / 2 ^ i % 2
theorem popi_6 (u : Nat) : popi u 6 = pop6 u := by simp [popi, pop6]
theorem cnt_pred {p : Nat → Bool} {m : Nat} : cnt (fun l => decide (l + 1 < m) && p l) m = cnt p (m - 1) := by
  cases m with
  | zero => rfl
  | succ m =>
    rw [cnt_f (by simp)]
    exact cnt_cg m (fun s hs => by simp [hs])
/-- what a line brings to edit(k) -/
def pE (r : Fn) (eo : Nat → Option Nat) (m k l : Nat) : Bool :=
  if k = 0 then decide (eo l = none) else decide (l + 1 < m) && (if k = 1 then ctO (eo l) (eo (l + 1)) && !cnO r (fcr r) (eo l) (eo (l + 1)) else if k = 2 then reO (fcr r) (spr r) l (eo l) && reO (fcr r) (spr r) (l + 1) (eo (l + 1)) else if k = 3 then ctO (eo l) (eo (l + 1)) else false)
theorem msk_pop {p : Nat → Bool} : ∀ n, n ≤ 6 → pop6 (msk p n) = cnt p n := by
  intro n hn
  rcases (show n = 0 ∨ n = 1 ∨ n = 2 ∨ n = 3 ∨ n = 4 ∨ n = 5 ∨ n = 6 by omega) with rfl | rfl | rfl | rfl | rfl | rfl | rfl
  · simp [msk, cnt, pop6]
  · cases h0 : p 0 <;> simp [msk, cnt, pop6, h0]
  · cases h0 : p 0 <;> cases h1 : p 1 <;> simp [msk, cnt, pop6, h0, h1]
  · cases h0 : p 0 <;> cases h1 : p 1 <;> cases h2 : p 2 <;> simp [msk, cnt, pop6, h0, h1, h2]
  · cases h0 : p 0 <;> cases h1 : p 1 <;> cases h2 : p 2 <;> cases h3 : p 3 <;> simp [msk, cnt, pop6, h0, h1, h2, h3]
  · cases h0 : p 0 <;> cases h1 : p 1 <;> cases h2 : p 2 <;> cases h3 : p 3 <;> cases h4 : p 4 <;> simp [msk, cnt, pop6, h0, h1, h2, h3, h4]
  · cases h0 : p 0 <;> cases h1 : p 1 <;> cases h2 : p 2 <;> cases h3 : p 3 <;> cases h4 : p 4 <;> cases h5 : p 5 <;> simp [msk, cnt, pop6, h0, h1, h2, h3, h4, h5]
section P2
variable {g : Glob} {S : Scn} {O : Oth}
theorem pr_clear : Pr g mX5_clear mX6_clear [] := by
  rintro ⟨S, O⟩ ⟨i1, i2, i3, ⟨t, ht, hl, hl2, htx⟩, i5⟩
  refine ⟨nI t, (S, o_R' O (r_len' (o_R O) 0)), (S, o_M' (o_R' O (r_len' (o_R O) 0)) (z_let' (o_M O) 0)), ?_, ?_, ⟨i1, i2, i3, ⟨0, by decide, rfl, rfl, fun i hi => absurd hi (by omega)⟩, i5⟩⟩
  · refine acw gdX5_clear 20 rfl ?_
    have h : ACe g mX2_dropText [.ref 53] (lay (S, O)) (some (.int (nI t))) (lay (S, o_R' O (r_len' (o_R O) 0))) := acw gdX2_dropText 20 rfl ⟨congrArg (fun z => some (Value.int z)) hl, rfl⟩
    exact ac_to h ⟨rfl, rfl⟩
  · exact acw gdX6_clear 20 rfl ⟨congrArg (fun z => some (Value.int z)) hl2, rfl⟩
theorem pr_forget : Pr g mX5_forget mX6_forget [] := by
  rintro ⟨S, O⟩ ⟨i1, i2, i3, i4, ⟨q, kw, hq, hs, hs2, hk⟩⟩
  refine ⟨nI q, (S, o_G' O (q_sn' (o_G O) 0)), (S, o_M' (o_G' O (q_sn' (o_G O) 0)) (z_seen' (o_M O) 0)), ?_, ?_, ⟨i1, i2, i3, i4, ⟨0, kw, by decide, rfl, rfl, fun i hi => absurd hi (by omega)⟩⟩⟩
  · refine acw gdX5_forget 20 rfl ?_
    have h : ACe g mX4_dropAll [.ref 79] (lay (S, O)) (some (.int (nI q))) (lay (S, o_G' O (q_sn' (o_G O) 0))) := acw gdX4_dropAll 20 rfl ⟨congrArg (fun z => some (Value.int z)) hs, rfl⟩
    exact ac_to h ⟨rfl, rfl⟩
  · exact acw gdX6_forget 20 rfl ⟨congrArg (fun z => some (Value.int z)) hs2, rfl⟩
theorem pr_player (a b : Int32) : Pr g mX5_player mX6_player [.int a, .int b] := by
  rintro ⟨S, O⟩ hI
  by_cases h : a < 0 ∨ 1 < a ∨ b < 0 ∨ 1 < b
  · refine ⟨-1, (S, O), (S, O), ac_cplayer_bad a b h, ?_, hI⟩
    refine acw gdX6_player 40 rfl (ac_to (am_in _ _ _ _) ⟨fun _ => ⟨rfl, rfl⟩, fun h1 => ?_⟩)
    refine ac_to (am_in _ _ _ _) ⟨fun _ => ⟨rfl, rfl⟩, fun h2 => ?_⟩
    rw [bi_e0, Bool.not_eq_false] at h1 h2
    simp only [Bool.and_eq_true, Bool.not_eq_true', decide_eq_false_iff_not] at h1 h2
    rcases h with h | h | h | h
    · exact absurd h h1.1
    · exact absurd h h1.2
    · exact absurd h h2.1
    · exact absurd h h2.2
  · have h1 : ¬ a < 0 := fun z => h (Or.inl z)
    have h2 : ¬ 1 < a := fun z => h (Or.inr (Or.inl z))
    have h3 : ¬ b < 0 := fun z => h (Or.inr (Or.inr (Or.inl z)))
    have h4 : ¬ 1 < b := fun z => h (Or.inr (Or.inr (Or.inr z)))
    obtain ⟨p, k, hp, hk, rfl, rfl, hC⟩ := ac_cplayer (g := g) (S := S) (O := O) a b h1 h2 h3 h4
    refine ⟨_, (S, O), (S, O), hC, ?_, hI⟩
    obtain ⟨⟨eo, m, n, hS, hw⟩, -⟩ := hI
    refine acw gdX6_player 40 rfl (ac_to (am_in _ _ _ _) ⟨fun z => absurd z (by simp [bi, h1, h2]), fun _ => ?_⟩)
    refine ac_to (am_in _ _ _ _) ⟨fun z => absurd z (by simp [bi, h3, h4]), fun _ => ?_⟩
    have e : 2 * nI p + nI k = nI (2 * p + k) := by simp only [nlit, pk_mul, nI_add]
    refine ⟨_, _, rfl, vin e (by omega) (by decide), ?_⟩
    rw [vcl e (by omega)]
    exact ⟨congrArg (fun z => some (Value.int z)) (hS.2.2.1 (2 * p + k) (by omega)).symm, rfl⟩
theorem pr_sees (a b : Int32) : Pr g mX5_sees mX6_sees [.int a, .int b] := by
  rintro ⟨S, O⟩ ⟨i1, i2, i3, i4, ⟨q, kw, hq, hs, hs2, hk⟩⟩
  by_cases h : a < 0 ∨ 2 < a ∨ b < -1 ∨ 5 < b
  · refine ⟨-1, (S, O), (S, O), ac_csees_bad a b h, ?_, ⟨i1, i2, i3, i4, ⟨q, kw, hq, hs, hs2, hk⟩⟩⟩
    refine acw gdX6_sees 40 rfl (ac_to (am_in _ _ _ _) ⟨fun _ => ⟨rfl, rfl⟩, fun h1 => ?_⟩)
    refine ac_to (am_in _ _ _ _) ⟨fun h2 => ?_, fun _ => ⟨rfl, rfl⟩⟩
    rw [bi_e0, Bool.not_eq_false] at h1 h2
    simp only [Bool.and_eq_true, Bool.not_eq_true', decide_eq_false_iff_not] at h1 h2
    rcases h with h | h | h | h
    · exact absurd h h1.1
    · exact absurd h h1.2
    · exact absurd h h2.1
    · exact absurd h h2.2
  have h1 : ¬ a < 0 := fun z => h (Or.inl z)
  have h2 : ¬ 2 < a := fun z => h (Or.inr (Or.inl z))
  have h3 : ¬ b < -1 := fun z => h (Or.inr (Or.inr (Or.inl z)))
  have h4 : ¬ 5 < b := fun z => h (Or.inr (Or.inr (Or.inr z)))
  obtain ⟨k, hk2, rfl⟩ := nI_of2 (M := 2) (n := 2) (by decide) h1 (Int32.not_lt.mp h2)
  by_cases h6 : q = 6
  · subst h6
    refine ⟨-3, (S, O), (S, O), ?_, ?_, ⟨i1, i2, i3, i4, ⟨_, kw, hq, hs, hs2, hk⟩⟩⟩
    · refine acw gdX5_sees 40 rfl ⟨fun h => absurd h h1, fun _ => ⟨fun h => absurd h h2, fun _ => ⟨fun h => absurd h h3, fun _ => ⟨fun _ => ?_, fun h => absurd (Int32.not_lt.mp h4) h⟩⟩⟩⟩
      exact ac_to (ac_snote_full hs) ⟨fun _ => ⟨rfl, rfl⟩, fun h => absurd rfl h⟩
    · refine acw gdX6_sees 40 rfl (ac_to (am_in _ _ _ _) ⟨fun z => absurd z (by simp [bi, h1, h2]), fun _ => ?_⟩)
      refine ac_to (am_in _ _ _ _) ⟨fun _ => ?_, fun z => absurd z (by simp [bi, h3, h4])⟩
      have e : z_seen (o_M (S, O).snd) = nI 6 := hs2
      exact ⟨fun h => absurd e h, fun _ => ⟨rfl, rfl⟩⟩
  · refine ⟨nI (q + 1), (S, o_G' O (upd (q_wh (o_G O)) q (nI k), upd (q_nu (o_G O)) q b, nI (q + 1))), (S, o_M' (o_G' O (upd (q_wh (o_G O)) q (nI k), upd (q_nu (o_G O)) q b, nI (q + 1))) (z_seen' (z_si' (z_sw' (o_M O) (upd (z_sw (o_M O)) q (nI k))) (upd (z_si (o_M O)) q b)) (nI (q + 1)))), ?_, ?_, ⟨i1, i2, i3, i4, ⟨q + 1, fun j => if j = q then k else kw j, by omega, rfl, rfl, ?_⟩⟩⟩
    · refine acw gdX5_sees 40 rfl ⟨fun h => absurd h h1, fun _ => ⟨fun h => absurd h h2, fun _ => ⟨fun h => absurd h h3, fun _ => ⟨fun _ => ?_, fun h => absurd (Int32.not_lt.mp h4) h⟩⟩⟩⟩
      exact ac_to (ac_snote hs (by omega)) ⟨fun h => absurd h (by decide), fun _ => ⟨rfl, rfl⟩⟩
    · refine acw gdX6_sees 60 rfl (ac_to (am_in _ _ _ _) ⟨fun z => absurd z (by simp [bi, h1, h2]), fun _ => ?_⟩)
      refine ac_to (am_in _ _ _ _) ⟨fun _ => ?_, fun z => absurd z (by simp [bi, h3, h4])⟩
      have e : z_seen (o_M O) = nI q := hs2
      refine ⟨fun _ => ?_, fun h => absurd ((neqI (b := 6) (by omega) (by omega)).mp (e.symm.trans h)) h6⟩
      refine ⟨_, _, rfl, vin e (by omega) (by decide), ?_⟩
      refine ⟨_, _, rfl, vin e (by omega) (by decide), ?_⟩
      refine ⟨?_, ?_⟩
      · show some (Value.int (z_seen (o_M O) + 1)) = _
        rw [e, nI_1]
      · rw [vcl e (by omega)]
        show List.set (List.set (List.set (lay _) 101 _) 102 _) 94 (.inr (6, [_, _, _, _, _, _, _, _, _, _, _, _, _, .int (z_seen (o_M O) + 1), _, _, _, _, _, _, _, _, _])) = _
        rw [e, nI_1]
        rfl
    · intro j hj
      by_cases h : j = q
      · subst h
        have e9 : (if j = j then k else kw j) = k := if_pos rfl
        exact ⟨pk_us.trans (congrArg nI e9.symm), Nat.le_trans (Nat.le_of_eq e9) hk2, pk_us.trans (congrArg nI e9.symm), pk_us.trans pk_us.symm⟩
      · obtain ⟨z1, z2, z3, z4⟩ := hk j (by omega)
        have e9 : (if j = q then k else kw j) = kw j := if_neg h
        exact ⟨(pk_un h).trans (z1.trans (congrArg nI e9.symm)), Nat.le_trans (Nat.le_of_eq e9) z2, (pk_un h).trans (z3.trans (congrArg nI e9.symm)), (pk_un h).trans (z4.trans (pk_un h).symm)⟩
theorem pr_count (x : Int32) : Pr g mX5_count mX6_count [.int x] := by
  rintro ⟨S, O⟩ hI
  have hI0 := hI
  obtain ⟨⟨eo, m, n, hS, hw⟩, ⟨d, y, hd, hy, k1, k2, -⟩, -, ⟨t, ht, hl, hl2, -⟩, ⟨q, kw, hq, hs, hs2, -⟩⟩ := hI
  by_cases hx : x.toInt < 0 ∨ 4 < x.toInt
  · refine ⟨-1, (S, O), (S, O), ?_, ?_, hI0⟩
    · refine acw gdX5_count 40 rfl ⟨fun _ => ⟨rfl, rfl⟩, fun h => ?_, fun h => ?_, fun h => ?_, fun h => ?_, fun h => ?_, trivial⟩ <;> (exfalso; omega)
    · refine acw gdX6_count 40 rfl ⟨fun _ => ⟨rfl, rfl⟩, fun h => ?_, fun h => ?_, fun h => ?_, fun h => ?_, fun h => ?_, trivial⟩ <;> (exfalso; omega)
  have key : ∀ v : Int32, (x.toInt = 0 → v = nI m) → (x.toInt = 1 → v = nI n) → (x.toInt = 2 → v = nI q) → (x.toInt = 3 → v = nI t) → (x.toInt = 4 → v = nI d) → ∃ (v : Int32) (X1 X2 : St), ACe g mX5_count [.ref 0, .int x] (lay (S, O)) (some (.int v)) (lay X1) ∧ ACe g mX6_count [.ref 94, .int x] (lay X1) (some (.int v)) (lay X2) ∧ Inv X2 := by
    intro v v0 v1 v2 v3 v4
    refine ⟨v, (S, O), (S, O), ?_, ?_, hI0⟩
    · refine acw gdX5_count 40 rfl ⟨fun h => absurd h hx, fun h => ?_, fun h => ?_, fun h => ?_, fun h => ?_, fun h => ?_, trivial⟩
      · exact ⟨congrArg (fun z => some (Value.int z)) (hS.1.trans (v0 (by omega)).symm), rfl⟩
      · exact ⟨congrArg (fun z => some (Value.int z)) (hS.2.1.trans (v1 (by omega)).symm), rfl⟩
      · exact ⟨congrArg (fun z => some (Value.int z)) (hs.trans (v2 (by omega)).symm), rfl⟩
      · exact ⟨congrArg (fun z => some (Value.int z)) (hl.trans (v3 (by omega)).symm), rfl⟩
      · exact ⟨congrArg (fun z => some (Value.int z)) (k1.trans (v4 (by omega)).symm), rfl⟩
    · refine acw gdX6_count 40 rfl ⟨fun h => absurd h hx, fun h => ?_, fun h => ?_, fun h => ?_, fun h => ?_, fun h => ?_, trivial⟩
      · exact ⟨_, _, rfl, vlit (j := 4) (by decide) (by decide), congrArg (fun z => some (Value.int z)) (hw.1.trans (v0 (by omega)).symm), rfl⟩
      · exact ⟨_, _, rfl, vlit (j := 13) (by decide) (by decide), congrArg (fun z => some (Value.int z)) (hw.2.2.1.trans (v1 (by omega)).symm), rfl⟩
      · exact ⟨congrArg (fun z => some (Value.int z)) (hs2.trans (v2 (by omega)).symm), rfl⟩
      · exact ⟨congrArg (fun z => some (Value.int z)) (hl2.trans (v3 (by omega)).symm), rfl⟩
      · exact ⟨congrArg (fun z => some (Value.int z)) (k2.trans (v4 (by omega)).symm), rfl⟩
  rcases (show x.toInt = 0 ∨ x.toInt = 1 ∨ x.toInt = 2 ∨ x.toInt = 3 ∨ x.toInt = 4 by omega) with h | h | h | h | h
  · exact key (nI m) (fun _ => rfl) (fun _ => by omega) (fun _ => by omega) (fun _ => by omega) (fun _ => by omega)
  · exact key (nI n) (fun _ => by omega) (fun _ => rfl) (fun _ => by omega) (fun _ => by omega) (fun _ => by omega)
  · exact key (nI q) (fun _ => by omega) (fun _ => by omega) (fun _ => rfl) (fun _ => by omega) (fun _ => by omega)
  · exact key (nI t) (fun _ => by omega) (fun _ => by omega) (fun _ => by omega) (fun _ => rfl) (fun _ => by omega)
  · exact key (nI d) (fun _ => by omega) (fun _ => by omega) (fun _ => by omega) (fun _ => by omega) (fun _ => rfl)
end P2
end
section
section P3
variable {g : Glob} {S : Scn} {O : Oth}
theorem am_ones {u : Nat} (hu : u < 64) (h : AH) : ACe g mX6_ones [.int (nI u)] h (some (.int (nI (pop6 u)))) h := by
  refine acw gdX6_ones 30 rfl ?_
  rw [← popi_6]
  refine dn (n := 6) (P := fun i => AW g mX6_ones _ 0 0 4 [some (.int (nI u)), some (.int (nI (popi u i))), some (.int (nI i))] [] h) ?_ (fun i hi ih => ?_) 0 (Nat.zero_le _)
  · exact lpw gdX6_ones 30 ⟨fun _ => ⟨rfl, rfl⟩, fun h => absurd (nle (n := 6) (by omega) (by omega)) h⟩
  · refine lpw gdX6_ones 30 ⟨fun h => absurd h (nge (n := 6) (by omega) (by omega)), fun _ => awl ?_ ih⟩
    show [some (Value.int (nI u)), some (Value.int (nI (popi u i) + (nI u >>> (nI i &&& 31) &&& 1))), some (Value.int (nI i + 1))] = _
    rw [bit_at u hu i hi, nI_add, nI_1]
    rfl
theorem am_isSo {s q : Nat} {kw : Nat → Nat} (hs : s < 6) (hq : z_seen (o_M O) = nI q) (hq6 : q ≤ 6) (hk : ∀ j, j < q → z_sw (o_M O) j = nI (kw j) ∧ kw j ≤ 2) : ACe g mX6_isSo [.ref 94, .int (nI s)] (lay (S, O)) (some (.int (bi (soA (z_now (o_M O)) (fcr (z_now (o_M O))) kw (z_si (o_M O)) q s)))) (lay (S, O)) := by
  have e0 : z_seen (o_M (S, O).snd) = nI q := hq
  refine acw gdX6_isSo 60 rfl ?_
  refine dn (n := q) (P := fun i => AW g mX6_isSo _ 0 0 4 [some (.ref 94), some (.int (nI s)), some (.int (bi (soA (z_now (o_M O)) (fcr (z_now (o_M O))) kw (z_si (o_M O)) i s))), some (.int (nI i)), none] [] (lay (S, O))) ?_ (fun i hi ih => ?_) 0 (Nat.zero_le _)
  · exact lpw gdX6_isSo 40 ⟨fun _ => ⟨bi_n _, rfl, rfl⟩, fun h => absurd (by rw [e0]; exact nle (by omega) (by omega)) h⟩
  · obtain ⟨k1, k2⟩ := hk i hi
    have J65 : ∀ v : Int32, v = bi (soA (z_now (o_M O)) (fcr (z_now (o_M O))) kw (z_si (o_M O)) (i + 1) s) → ∀ x : Value, AW g mX6_isSo (fun r h' => r = some (.int (bi (soA (z_now (o_M O)) (fcr (z_now (o_M O))) kw (z_si (o_M O)) q s))) ∧ h' = lay (S, O)) 0 0 65 [some (.ref 94), some (.int (nI s)), some (.int (bi (soA (z_now (o_M O)) (fcr (z_now (o_M O))) kw (z_si (o_M O)) i s))), some (.int (nI i)), some x] [.int v] (lay (S, O)) := by
      intro v hv x
      refine lpw gdX6_isSo 40 (awf ?_ ih)
      rw [hv, ← nI_1]
      exact ⟨rfl, rfl, rfl, rfl, trivial⟩
    have J43 : AW g mX6_isSo (fun r h' => r = some (.int (bi (soA (z_now (o_M O)) (fcr (z_now (o_M O))) kw (z_si (o_M O)) q s))) ∧ h' = lay (S, O)) 0 0 43 [some (.ref 94), some (.int (nI s)), some (.int (bi (soA (z_now (o_M O)) (fcr (z_now (o_M O))) kw (z_si (o_M O)) i s))), some (.int (nI i)), none] [.int (lkS (z_now (o_M O)) (fcr (z_now (o_M O))) s (kw i))] (lay (S, O)) := by
      refine lpw gdX6_isSo 40 ⟨fun h1 => ?_, fun h1 => ?_⟩
      · replace h1 : soA (z_now (o_M O)) (fcr (z_now (o_M O))) kw (z_si (o_M O)) i s = false := (bi_e0 _).mp h1
        exact J65 0 (bi_f (by unfold soA allB; unfold soA at h1; rw [h1]; rfl)).symm _
      replace h1 : soA (z_now (o_M O)) (fcr (z_now (o_M O))) kw (z_si (o_M O)) i s = true := by rw [bi_e0, Bool.not_eq_false] at h1; exact h1
      refine ⟨_, _, rfl, vlit (by omega) (by decide), ?_⟩
      rw [vcl rfl (by omega)]
      refine ⟨fun h2 => ?_, fun h2 => ?_⟩
      · exact J65 0 (bi_f (by unfold soA allB; simp only [Bool.and_eq_false_iff, decide_eq_false_iff_not]; exact Or.inr h2)).symm _
      · exact J65 1 (bi_t (by unfold soA allB; unfold soA at h1; rw [h1]; simp only [Bool.true_and, decide_eq_true_eq]; exact h2)).symm _
    refine lpw gdX6_isSo 40 ⟨fun h => absurd h (by rw [e0]; exact nge (by omega) (by omega)), fun _ => ?_⟩
    refine ⟨_, _, rfl, vlit (by omega) (by decide), ?_⟩
    rw [vcl rfl (by omega), show z_sw (o_M (S, O).snd) i = nI (kw i) from k1]
    refine ⟨fun h1 => ?_, fun h1 => ?_⟩
    · have h2 : ¬ kw i = 2 := fun z => h1 (by rw [z]; rfl)
      refine ⟨_, _, rfl, vlit (by omega) (by decide), ?_⟩
      rw [vcl rfl (by omega), show z_sw (o_M (S, O).snd) i = nI (kw i) from k1]
      refine ac_ar (by rw [show (2 : Int32) + nI (kw i) = nI (2 + kw i) by simp only [nlit, nI_add]]) (ac_to (am_of (w := 2 + kw i) hs (by omega)) ?_)
      have e : lkS (z_now (o_M O)) (fcr (z_now (o_M O))) s (kw i) = fcr (z_now (o_M O)) (7 * s + (2 + kw i)) := if_neg h2
      rw [← e]
      exact J43
    · have h2 : kw i = 2 := (neqI (b := 2) (by omega) (by omega)).mp h1
      refine ac_to (am_sideOf hs) ?_
      have e : lkS (z_now (o_M O)) (fcr (z_now (o_M O))) s (kw i) = sdA (z_now (o_M O)) (fcr (z_now (o_M O))) s := if_pos h2
      rw [← e]
      exact J43
/-- the lowest of the last k below n -/
def loF (p : Nat → Bool) (n : Nat) : Nat → Option Nat
  | 0 => none
  | k + 1 => if p (n - (k + 1)) then some (n - (k + 1)) else loF p n k
theorem loF_st {p : Nat → Bool} {n j : Nat} (h : j < n) : loF p n (n - j) = if p j then some j else loF p n (n - (j + 1)) := by
  obtain ⟨k, hk⟩ : ∃ k, n - j = k + 1 := ⟨n - j - 1, by omega⟩
  rw [hk]
  conv => lhs; unfold loF
  rw [show n - (k + 1) = j by omega, show n - (j + 1) = k by omega]
theorem am_which {n q x : Nat} {kw : Nat → Nat} (hx : x ≤ 1) (hn : z_now (o_M O) 13 = nI n) (h6 : n ≤ 6) (hq : z_seen (o_M O) = nI q) (hq6 : q ≤ 6) (hk : ∀ j, j < q → z_sw (o_M O) j = nI (kw j) ∧ kw j ≤ 2) :
    ACe g mX6_which [.ref 94, .int (nI x)] (lay (S, O)) (some (.int (if x = 0 then nI (cnt (soA (z_now (o_M O)) (fcr (z_now (o_M O))) kw (z_si (o_M O)) q) n) else sh (loF (soA (z_now (o_M O)) (fcr (z_now (o_M O))) kw (z_si (o_M O)) q) n n)))) (lay (S, O)) := by
  have e0 : z_now (o_M (S, O).snd) 13 = nI n := hn
  generalize hp : soA (z_now (o_M O)) (fcr (z_now (o_M O))) kw (z_si (o_M O)) q = p
  refine acw gdX6_which 60 rfl (ac_to (am_in _ _ _ _) ⟨fun _ => ?_, fun h => absurd h ?_⟩)
  · have Q : ∀ j, j ≤ n → AW g mX6_which (fun r h' => r = some (.int (if x = 0 then nI (cnt p n) else sh (loF p n n))) ∧ h' = lay (S, O)) 0 0 27 [some (.ref 94), some (.int (nI x)), some (.int (nI (cnt p n - cnt p j))), some (.int (sh (loF p n (n - j)))), some (.int (nI j - 1)), none] [] (lay (S, O)) := by
      intro j
      induction j with
      | zero =>
        intro _
        refine lpw gdX6_which 40 ⟨fun _ => ⟨fun h1 => ?_, fun h1 => ?_⟩, fun h => absurd (by decide) h⟩
        · have h2 : ¬ x = 0 := fun z => h1 (by rw [z]; rfl)
          rw [if_neg h2]
          exact ⟨rfl, rfl⟩
        · have h2 : x = 0 := (neqI (b := 0) (by omega) (by omega)).mp h1
          rw [if_pos h2]
          exact ⟨rfl, rfl⟩
      | succ j ih =>
        intro hj
        have e1 : nI (j + 1) - 1 = nI j := nI_pred j
        have c1 : cnt p (j + 1) ≤ cnt p n := by
          obtain ⟨k, rfl⟩ : ∃ k, n = j + 1 + k := ⟨n - (j + 1), by omega⟩
          clear ih hj e0 hn h6
          induction k with
          | zero => exact Nat.le_refl _
          | succ k ih =>
            rw [show j + 1 + (k + 1) = (j + 1 + k) + 1 by omega]
            conv => rhs; unfold cnt
            split <;> omega
        have c2 := cnt_le p n
        rw [e1]
        refine lpw gdX6_which 40 ⟨fun h => absurd h (nlt0 j (by omega)), fun _ => ?_⟩
        refine ac_to (am_isSo (kw := kw) (by omega) hq hq6 hk) ?_
        rw [hp]
        have hlo := loF_st (p := p) (show j < n by omega)
        refine ⟨fun hc => ⟨fun _ => awf ?_ (ih (by omega)), fun h => absurd hc h⟩, fun hc => ⟨fun h => absurd h hc, fun _ => awf ?_ (ih (by omega))⟩⟩
        · rw [bi_e0] at hc
          rw [hc] at hlo
          rw [hlo, show cnt p j = cnt p (j + 1) from (cnt_f hc).symm]
          refine ⟨rfl, rfl, ?_, rfl, congrArg Value.int (Int32.sub_eq_add_neg _ _), trivial⟩
          show Value.int (nI (cnt p n - cnt p (j + 1))) = Value.int (nI (cnt p n - cnt p (j + 1)) + 0)
          rw [nlit, nI_add]
          rfl
        · rw [bi_e0, Bool.not_eq_false] at hc
          rw [hc] at hlo
          rw [hlo, show cnt p n - cnt p j = cnt p n - cnt p (j + 1) + 1 by rw [cnt_t hc] at c1 ⊢; omega]
          refine ⟨rfl, rfl, ?_, rfl, congrArg Value.int (Int32.sub_eq_add_neg _ _), trivial⟩
          rw [← nI_1]
    refine ⟨_, _, rfl, vlit (j := 13) (by decide) (by decide), ?_⟩
    rw [vcl (x := 13) (j := 13) rfl (by decide), e0]
    have Qn := Q n (Nat.le_refl n)
    rw [Nat.sub_self, Nat.sub_self] at Qn
    exact Qn
  · have h1 : ¬ nI x < 0 := nlt0 x (by omega)
    have h2 : ¬ 1 < nI x := fun z => by
      have := (nltI (a := 1) (b := x) (by omega) (by omega)).mp z
      omega
    simp [bi, h1, h2]
def tzN (u : Nat) : Nat := if u % 2 = 1 then 0 else if u / 2 % 2 = 1 then 1 else if u / 4 % 2 = 1 then 2 else if u / 8 % 2 = 1 then 3 else if u / 16 % 2 = 1 then 4 else 5
theorem nz_fin : ∀ u : Nat, u < 64 → u ≠ 0 → nzF (nI u) = nI (tzN u) := by decide +kernel
theorem msk_lo {p : Nat → Bool} : ∀ n, n ≤ 6 → loF p n n = if msk p n = 0 then none else some (tzN (msk p n)) := by
  intro n hn
  rcases (show n = 0 ∨ n = 1 ∨ n = 2 ∨ n = 3 ∨ n = 4 ∨ n = 5 ∨ n = 6 by omega) with rfl | rfl | rfl | rfl | rfl | rfl | rfl
  · simp [msk, loF]
  · cases h0 : p 0 <;> simp [msk, loF, tzN, h0]
  · cases h0 : p 0 <;> cases h1 : p 1 <;> simp [msk, loF, tzN, h0, h1]
  · cases h0 : p 0 <;> cases h1 : p 1 <;> cases h2 : p 2 <;> simp [msk, loF, tzN, h0, h1, h2]
  · cases h0 : p 0 <;> cases h1 : p 1 <;> cases h2 : p 2 <;> cases h3 : p 3 <;> simp [msk, loF, tzN, h0, h1, h2, h3]
  · cases h0 : p 0 <;> cases h1 : p 1 <;> cases h2 : p 2 <;> cases h3 : p 3 <;> cases h4 : p 4 <;> simp [msk, loF, tzN, h0, h1, h2, h3, h4]
  · cases h0 : p 0 <;> cases h1 : p 1 <;> cases h2 : p 2 <;> cases h3 : p 3 <;> cases h4 : p 4 <;> cases h5 : p 5 <;> simp [msk, loF, tzN, h0, h1, h2, h3, h4, h5]
theorem ScC.so {S : Scn} {r : Fn} {m n q s : Nat} {kw : Nat → Nat} {nu si : Fn} (h : ScC S r m n) (hs : s < n) (hk : ∀ j, j < q → kw j ≤ 2 ∧ si j = nu j) : soA (s_pl S) (s_fc S) kw nu q s = soA r (fcr r) kw si q s := by
  unfold soA
  refine allB_cg q (fun j hj => ?_)
  obtain ⟨k1, k2⟩ := hk j hj
  have e : lkS (s_pl S) (s_fc S) s (kw j) = lkS r (fcr r) s (kw j) := by
    unfold lkS
    by_cases h2 : kw j = 2
    · rw [if_pos h2, if_pos h2, h.sd hs]
    · rw [if_neg h2, if_neg h2, h.2.2.2.2.1 _ (by omega)]
  rw [e, k2]
theorem pr_which (x : Int32) : Pr g mX5_which mX6_which [.int x] := by
  rintro ⟨S, O⟩ hI
  have hI0 := hI
  obtain ⟨⟨eo, m, n, hS, hw⟩, -, -, -, ⟨q, kw, hq, hs, hs2, hk⟩⟩ := hI
  by_cases hx : x < 0 ∨ 1 < x
  · refine ⟨-1, (S, O), (S, O), ?_, ?_, hI0⟩
    · refine acw gdX5_which 40 rfl ⟨fun _ => ⟨rfl, rfl⟩, fun h1 => ⟨fun h2 => ?_, fun _ => ⟨rfl, rfl⟩⟩⟩
      rcases hx with hx | hx
      · exact absurd hx h1
      · exact absurd hx (Int32.not_lt.mpr h2)
    · refine acw gdX6_which 40 rfl (ac_to (am_in _ _ _ _) ⟨fun h1 => ?_, fun _ => ⟨rfl, rfl⟩⟩)
      rw [bi_e0, Bool.not_eq_false] at h1
      simp only [Bool.and_eq_true, Bool.not_eq_true', decide_eq_false_iff_not] at h1
      rcases hx with hx | hx
      · exact absurd hx h1.1
      · exact absurd hx h1.2
  have h1 : ¬ x < 0 := fun z => hx (Or.inl z)
  have h2 : ¬ 1 < x := fun z => hx (Or.inr z)
  obtain ⟨k, hk1, rfl⟩ := nI_of2 (M := 1) (n := 1) (by decide) h1 (Int32.not_lt.mp h2)
  have hn6 := hw.2.2.2.1
  have hM := am_which (g := g) (S := S) (O := O) (kw := kw) hk1 hw.2.2.1 hn6 hs2 hq (fun j hj => ⟨(hk j hj).2.2.1, (hk j hj).2.1⟩)
  refine ⟨_, (S, O), (S, O), ?_, hM, hI0⟩
  have hF := ac_fitting (g := g) (S := S) (O := O) (kw := kw) hS.2.1 hn6 (hS.okp hw) (hS.okf hw) hs hq (fun j hj => ⟨(hk j hj).1, (hk j hj).2.1⟩)
  have eM : msk (soA (s_pl S) (s_fc S) kw (q_nu (o_G O)) q) n = msk (soA (z_now (o_M O)) (fcr (z_now (o_M O))) kw (z_si (o_M O)) q) n := msk_cg n (fun s hs => hS.so hs (fun j hj => ⟨(hk j hj).2.1, (hk j hj).2.2.2⟩))
  rw [eM] at hF
  generalize soA (z_now (o_M O)) (fcr (z_now (o_M O))) kw (z_si (o_M O)) q = p at hF
  have hu : msk p n < 64 := Nat.lt_of_lt_of_le (msk_lt p n) (Nat.le_trans (Nat.pow_le_pow_right (by decide) hn6) (by decide))
  refine acw gdX5_which 40 rfl ⟨fun h => absurd h h1, fun _ => ⟨fun _ => ?_, fun h => absurd (Int32.not_lt.mp h2) h⟩⟩
  refine ac_to hF ⟨fun h3 => ?_, fun h3 => ?_⟩
  · have h4 : ¬ k = 0 := fun z => h3 (by rw [z]; rfl)
    rw [if_neg h4, msk_lo n hn6]
    refine ⟨fun h5 => ?_, fun h5 => ?_⟩
    · have h6 : ¬ msk p n = 0 := fun z => h5 (by rw [z]; rfl)
      rw [if_neg h6]
      refine ac_to (ac_ntz _ _) ⟨?_, rfl⟩
      rw [nz_fin _ hu h6]
      rfl
    · have h6 : msk p n = 0 := (neqI (b := 0) (by omega) (by omega)).mp h5
      rw [if_pos h6]
      exact ⟨rfl, rfl⟩
  · have h4 : k = 0 := (neqI (b := 0) (by omega) (by omega)).mp h3
    rw [if_pos h4]
    refine ac_to (ac_bitCount _ _) ⟨?_, rfl⟩
    rw [bc_fin _ hu, msk_pop n hn6]
end P3
end
section
section P4
variable {g : Glob} {S : Scn} {O : Oth}
theorem in_t {x : Int32} {n k : Nat} (hk : k ≤ n) (hn : n ≤ 2000) (h : x = nI k) : bi (!decide (x < 0) && !decide (nI n < x)) = 1 := by
  subst h
  have h1 : ¬ nI k < 0 := nlt0 k (by omega)
  have h2 : ¬ nI n < nI k := fun z => by have := (nltI hn (by omega)).mp z; omega
  simp [bi, h1, h2]
theorem ln_t {l m : Nat} (h : l < m) (hm : m ≤ 2000) : (!decide (nI l < 0) && !decide (nI m ≤ nI l)) = true := by
  have h1 : ¬ nI l < 0 := nlt0 l (by omega)
  have h2 : ¬ nI m ≤ nI l := nge h (by omega)
  simp [h1, h2]
theorem ln_f {x : Int32} {m : Nat} (h : x < 0 ∨ nI m ≤ x) : (!decide (x < 0) && !decide (nI m ≤ x)) = false := by
  rcases h with h | h <;> simp [h]
/-- the model's isLine, isShot in the class's words -/
theorem am_isLine' {m : Nat} (l : Int32) (hm : z_now (o_M O) 4 = nI m) (h8 : m ≤ 2000) : ACe g mX6_isLine [.ref 94, .int l] (lay (S, O)) (some (.int (bi (!decide (l < 0) && !decide (nI m ≤ l))))) (lay (S, O)) := by
  have := am_isLine (g := g) (S := S) (O := O) l
  rw [hm] at this
  rwa [show decide (nI m - 1 < l) = decide (nI m ≤ l) by rw [decide_eq_decide]; exact le_pred h8] at this
theorem am_isShot' {m : Nat} (l : Int32) (hm : z_now (o_M O) 13 = nI m) (h8 : m ≤ 2000) : ACe g mX6_isShot [.ref 94, .int l] (lay (S, O)) (some (.int (bi (!decide (l < 0) && !decide (nI m ≤ l))))) (lay (S, O)) := by
  have := am_isShot (g := g) (S := S) (O := O) l
  rw [hm] at this
  rwa [show decide (nI m - 1 < l) = decide (nI m ≤ l) by rw [decide_eq_decide]; exact le_pred h8] at this
theorem ac_hasLine' {m : Nat} (l : Int32) (hm : s_nl S = nI m) : ACe g mX3_hasLine [.ref 1, .int l] (lay (S, O)) (some (.int (bi (!decide (l < 0) && !decide (nI m ≤ l))))) (lay (S, O)) := by
  have := ac_hasLine (g := g) (S := S) (O := O) l
  rwa [hm] at this
theorem ac_hasShot' {m : Nat} (l : Int32) (hm : s_ns S = nI m) : ACe g mX3_hasShot [.ref 1, .int l] (lay (S, O)) (some (.int (bi (!decide (l < 0) && !decide (nI m ≤ l))))) (lay (S, O)) := by
  have := ac_hasShot (g := g) (S := S) (O := O) l
  rwa [hm] at this
theorem n01 : ¬ (1 : Int32) = 0 := by decide
theorem pr_line (l x : Int32) : Pr g mX5_line mX6_line [.int l, .int x] := by
  rintro ⟨S, O⟩ hI
  have hI0 := hI
  obtain ⟨⟨eo, m, n, hS, hw⟩, -⟩ := hI
  have h8 := hw.2.1
  have h6 := hw.2.2.2.1
  have C1 := ac_hasLine' (g := g) (S := S) (O := O) l hS.1
  have M1 := am_isLine' (g := g) (S := S) (O := O) l hw.1 (by omega)
  rcases ix l (n := m) (by omega) with h | h | ⟨j, hj, rfl⟩
  · rw [ln_f (Or.inl h)] at C1 M1
    refine ⟨-1, (S, O), (S, O), ?_, ?_, hI0⟩
    · exact acw gdX5_line 40 rfl (ac_to C1 ⟨fun h => absurd rfl h, fun _ => ⟨rfl, rfl⟩⟩)
    · exact acw gdX6_line 40 rfl (ac_to M1 ⟨fun _ => ⟨rfl, rfl⟩, fun h => absurd rfl h⟩)
  · rw [ln_f (Or.inr h)] at C1 M1
    refine ⟨-1, (S, O), (S, O), ?_, ?_, hI0⟩
    · exact acw gdX5_line 40 rfl (ac_to C1 ⟨fun h => absurd rfl h, fun _ => ⟨rfl, rfl⟩⟩)
    · exact acw gdX6_line 40 rfl (ac_to M1 ⟨fun _ => ⟨rfl, rfl⟩, fun h => absurd rfl h⟩)
  rw [ln_t hj (by omega)] at C1 M1
  by_cases hx : x < 0 ∨ 3 < x
  · refine ⟨-1, (S, O), (S, O), ?_, ?_, hI0⟩
    · have hx2 : x.toInt < 0 ∨ 3 < x.toInt := by
        rcases hx with hx | hx
        · exact Or.inl (Int32.lt_iff_toInt_lt.mp hx)
        · exact Or.inr (Int32.lt_iff_toInt_lt.mp hx)
      refine acw gdX5_line 40 rfl (ac_to C1 ⟨fun _ => ⟨fun _ => ⟨rfl, rfl⟩, fun h => ?_, fun h => ?_, fun h => ?_, fun h => ?_, trivial⟩, fun h => absurd h n01⟩) <;> (exfalso; omega)
    · refine acw gdX6_line 40 rfl (ac_to M1 ⟨fun h => absurd h n01, fun _ => ?_⟩)
      refine ac_to (am_in _ _ _ _) ⟨fun h1 => ?_, fun _ => ⟨rfl, rfl⟩⟩
      rw [bi_e0, Bool.not_eq_false] at h1
      simp only [Bool.and_eq_true, Bool.not_eq_true', decide_eq_false_iff_not] at h1
      rcases hx with hx | hx
      · exact absurd hx h1.1
      · exact absurd hx h1.2
  have h1 : ¬ x < 0 := fun z => hx (Or.inl z)
  have h2 : ¬ 3 < x := fun z => hx (Or.inr z)
  obtain ⟨k, hk, rfl⟩ := nI_of2 (M := 3) (n := 3) (by decide) h1 (Int32.not_lt.mp h2)
  have hed := hw.2.2.2.2.2.2.1 j (by omega)
  have e56 : 56 + nI j = nI (56 + j) := by simp only [nlit, nI_add]
  have e5 : 5 + nI j = nI (5 + j) := by simp only [nlit, nI_add]
  have ho6 : okO 6 (eo j) := fun s hs => Nat.lt_of_lt_of_le (hed.2 s hs) h6
  have e1 : s_ed S j = sh (eo j) := (hS.2.2.2.2.2 j (by omega)).trans hed.1
  have hin : ∀ (k : Nat), k ≤ 3 → bi (!decide (nI k < 0) && !decide (3 < nI k)) = 1 := fun k hk => in_t (n := 3) hk (by decide) rfl
  rcases (show k = 0 ∨ k = 1 ∨ k = 2 ∨ k = 3 by omega) with rfl | rfl | rfl | rfl
  · refine ⟨s_sp S j, (S, O), (S, O), ?_, ?_, hI0⟩
    · refine acw gdX5_line 40 rfl (ac_to C1 ⟨fun _ => ⟨fun h => absurd h (by decide), fun h => ?_, fun h => absurd h (by decide), fun h => absurd h (by decide), fun h => absurd h (by decide), trivial⟩, fun h => absurd h n01⟩)
      refine ⟨_, _, rfl, vlit (by omega) (by decide), ?_⟩
      rw [vcl rfl (by omega)]
      exact ⟨rfl, rfl⟩
    · refine acw gdX6_line 40 rfl (ac_to M1 ⟨fun h => absurd h n01, fun _ => ?_⟩)
      refine ac_to (am_in _ _ _ _) ⟨fun _ => ?_, fun h => absurd h (by rw [hin 0 (by omega)]; decide)⟩
      refine ⟨_, _, rfl, vin e56 (by omega) (by decide), ?_⟩
      refine ⟨fun h => absurd rfl h, fun _ => ?_⟩
      refine ⟨_, _, rfl, vin e5 (by omega) (by decide), ?_⟩
      rw [vcl e5 (by omega)]
      exact ⟨congrArg (fun z => some (Value.int z)) (hS.2.2.2.1 j hj).symm, rfl⟩
  · refine ⟨sh (eo j), (S, O), (S, O), ?_, ?_, hI0⟩
    · refine acw gdX5_line 40 rfl (ac_to C1 ⟨fun _ => ⟨fun h => absurd h (by decide), fun h => absurd h (by decide), fun h => ?_, fun h => absurd h (by decide), fun h => absurd h (by decide), trivial⟩, fun h => absurd h n01⟩)
      refine ⟨_, _, rfl, vlit (by omega) (by decide), ?_⟩
      rw [vcl rfl (by omega)]
      exact ⟨congrArg (fun z => some (Value.int z)) e1, rfl⟩
    · refine acw gdX6_line 40 rfl (ac_to M1 ⟨fun h => absurd h n01, fun _ => ?_⟩)
      refine ac_to (am_in _ _ _ _) ⟨fun _ => ?_, fun h => absurd h (by rw [hin 1 (by omega)]; decide)⟩
      refine ⟨_, _, rfl, vin e56 (by omega) (by decide), ?_⟩
      rw [vcl e56 (by omega)]
      refine ⟨fun _ => ⟨fun h => absurd rfl h, fun _ => ?_⟩, fun h => absurd h (by decide)⟩
      exact ⟨congrArg (fun z => some (Value.int z)) hed.1, rfl⟩
  · refine ⟨bi (reO (fcr (z_now (o_M O))) (spr (z_now (o_M O))) j (eo j)), (S, O), (S, O), ?_, ?_, hI0⟩
    · refine acw gdX5_line 40 rfl (ac_to C1 ⟨fun _ => ⟨fun h => absurd h (by decide), fun h => absurd h (by decide), fun h => absurd h (by decide), fun h => ?_, fun h => absurd h (by decide), trivial⟩, fun h => absurd h n01⟩)
      refine ⟨_, _, rfl, vlit (by omega) (by decide), ?_⟩
      rw [vcl rfl (by omega), show s_ed (S, O).fst j = sh (eo j) from e1]
      refine ac_to (ac_isReaction (by omega) ho6) ?_
      rw [hS.ro hed.2 hj]
      exact ⟨fun h => ⟨congrArg (fun z => some (Value.int z)) h.symm, rfl⟩, fun h => ⟨congrArg (fun z => some (Value.int z)) ((bi_01 _).resolve_left h).symm, rfl⟩⟩
    · refine acw gdX6_line 40 rfl (ac_to M1 ⟨fun h => absurd h n01, fun _ => ?_⟩)
      refine ac_to (am_in _ _ _ _) ⟨fun _ => ?_, fun h => absurd h (by rw [hin 2 (by omega)]; decide)⟩
      refine ⟨_, _, rfl, vin e56 (by omega) (by decide), ?_⟩
      rw [vcl e56 (by omega), show z_now (o_M (S, O).snd) (56 + j) = sh (eo j) from hed.1]
      refine ⟨fun _ => ⟨fun _ => ⟨fun h => absurd rfl h, fun _ => ?_⟩, fun h => absurd h (by decide)⟩, fun h => absurd h (by decide)⟩
      refine ac_to (am_isReaction (by omega) ho6) ?_
      exact ⟨fun h => ⟨congrArg (fun z => some (Value.int z)) h.symm, rfl⟩, fun h => ⟨congrArg (fun z => some (Value.int z)) ((bi_01 _).resolve_left h).symm, rfl⟩⟩
  · refine ⟨nI (msk (fun s => cvA (fcr (z_now (o_M O))) s j) n), (S, O), (S, O), ?_, ?_, hI0⟩
    · refine acw gdX5_line 40 rfl (ac_to C1 ⟨fun _ => ⟨fun h => absurd h (by decide), fun h => absurd h (by decide), fun h => absurd h (by decide), fun h => absurd h (by decide), fun h => ?_, trivial⟩, fun h => absurd h n01⟩)
      refine ac_to (ac_coverers hS.2.1 h6) ⟨?_, rfl⟩
      rw [msk_cg (q := fun s => cvA (fcr (z_now (o_M O))) s j) n (fun s hs => hS.cv hs)]
    · refine acw gdX6_line 40 rfl (ac_to M1 ⟨fun h => absurd h n01, fun _ => ?_⟩)
      refine ac_to (am_in _ _ _ _) ⟨fun _ => ?_, fun h => absurd h (by rw [hin 3 (by omega)]; decide)⟩
      refine ⟨_, _, rfl, vin e56 (by omega) (by decide), ?_⟩
      refine ⟨fun _ => ⟨fun _ => ⟨fun _ => ?_, fun h => absurd h (by decide)⟩, fun h => absurd h (by decide)⟩, fun h => absurd h (by decide)⟩
      exact ac_to (am_coversOf hw.2.2.1 h6) ⟨rfl, rfl⟩
end P4
end
section
section P5
variable {g : Glob} {S : Scn} {O : Oth}
theorem pr_shot (l x : Int32) : Pr g mX5_shot mX6_shot [.int l, .int x] := by
  rintro ⟨S, O⟩ hI
  have hI0 := hI
  obtain ⟨⟨eo, m, n, hS, hw⟩, -⟩ := hI
  have h6 := hw.2.2.2.1
  have C1 := ac_hasShot' (g := g) (S := S) (O := O) l hS.2.1
  have M1 := am_isShot' (g := g) (S := S) (O := O) l hw.2.2.1 (by omega)
  rcases ix l (n := n) (by omega) with h | h | ⟨j, hj, rfl⟩
  · rw [ln_f (Or.inl h)] at C1 M1
    refine ⟨-1000000, (S, O), (S, O), ?_, ?_, hI0⟩
    · exact acw gdX5_shot 40 rfl (ac_to C1 ⟨fun _ => ⟨rfl, rfl⟩, fun h => absurd rfl h⟩)
    · exact acw gdX6_shot 40 rfl (ac_to M1 ⟨fun _ => ⟨rfl, rfl⟩, fun h => absurd rfl h⟩)
  · rw [ln_f (Or.inr h)] at C1 M1
    refine ⟨-1000000, (S, O), (S, O), ?_, ?_, hI0⟩
    · exact acw gdX5_shot 40 rfl (ac_to C1 ⟨fun _ => ⟨rfl, rfl⟩, fun h => absurd rfl h⟩)
    · exact acw gdX6_shot 40 rfl (ac_to M1 ⟨fun _ => ⟨rfl, rfl⟩, fun h => absurd rfl h⟩)
  rw [ln_t hj (by omega)] at C1 M1
  by_cases hx : x < 0 ∨ 10 < x
  · refine ⟨-1000000, (S, O), (S, O), ?_, ?_, hI0⟩
    · refine acw gdX5_shot 40 rfl (ac_to C1 ⟨fun h => absurd h n01, fun _ => ⟨fun h1 => ⟨fun h2 => ?_, fun h2 => ?_⟩, fun _ => ⟨rfl, rfl⟩⟩⟩)
      · have h3 : 10 < x.toInt := by
          rcases hx with hx | hx
          · exact absurd hx (Int32.not_lt.mpr h1)
          · exact Int32.lt_iff_toInt_lt.mp hx
        refine ⟨fun _ => ⟨rfl, rfl⟩, fun h => ?_, fun h => ?_, fun h => ?_, fun h => ?_, trivial⟩ <;> (exfalso; omega)
      · exfalso
        have h3 : x.toInt < 7 := Int32.lt_iff_toInt_lt.mp (Int32.not_le.mp h2)
        rcases hx with hx | hx
        · exact absurd hx (Int32.not_lt.mpr h1)
        · have : (10 : Int32).toInt < x.toInt := Int32.lt_iff_toInt_lt.mp hx
          have e : (10 : Int32).toInt = 10 := by decide
          omega
    · refine acw gdX6_shot 40 rfl (ac_to M1 ⟨fun h => absurd h n01, fun _ => ?_⟩)
      refine ac_to (am_in _ _ _ _) ⟨fun h1 => ?_, fun _ => ⟨rfl, rfl⟩⟩
      rw [bi_e0, Bool.not_eq_false] at h1
      simp only [Bool.and_eq_true, Bool.not_eq_true', decide_eq_false_iff_not] at h1
      rcases hx with hx | hx
      · exact absurd hx h1.1
      · exact absurd hx h1.2
  have h1 : ¬ x < 0 := fun z => hx (Or.inl z)
  have h2 : ¬ 10 < x := fun z => hx (Or.inr z)
  obtain ⟨k, hk, rfl⟩ := nI_of2 (M := 10) (n := 10) (by decide) h1 (Int32.not_lt.mp h2)
  have hin : ∀ (k : Nat), k ≤ 10 → bi (!decide (nI k < 0) && !decide (10 < nI k)) = 1 := fun k hk => in_t (n := 10) hk (by decide) rfl
  have hge : ∀ k : Nat, k ≤ 10 → (0 : Int32) ≤ nI k := fun k hk => nI_pos' (by omega)
  by_cases h7 : k < 7
  · refine ⟨s_fc S (7 * j + k), (S, O), (S, O), ?_, ?_, hI0⟩
    · refine acw gdX5_shot 40 rfl (ac_to C1 ⟨fun h => absurd h n01, fun _ => ⟨fun _ => ⟨fun h => absurd h (nge (n := 7) h7 (by omega)), fun _ => ?_⟩, fun h => absurd (hge k hk) h⟩⟩)
      exact ac_to (ac_fact (by omega) h7) ⟨rfl, rfl⟩
    · refine acw gdX6_shot 40 rfl (ac_to M1 ⟨fun h => absurd h n01, fun _ => ?_⟩)
      refine ac_to (am_in _ _ _ _) ⟨fun _ => ⟨fun h => absurd h (nge (n := 7) h7 (by omega)), fun _ => ?_⟩, fun h => absurd h (by rw [hin k hk]; decide)⟩
      exact ac_to (am_of (by omega) h7) ⟨congrArg (fun z => some (Value.int z)) (hS.2.2.2.2.1 (7 * j + k) (by omega)).symm, rfl⟩
  rcases (show k = 7 ∨ k = 8 ∨ k = 9 ∨ k = 10 by omega) with rfl | rfl | rfl | rfl
  · refine ⟨sdA (z_now (o_M O)) (fcr (z_now (o_M O))) j, (S, O), (S, O), ?_, ?_, hI0⟩
    · refine acw gdX5_shot 40 rfl (ac_to C1 ⟨fun h => absurd h n01, fun _ => ⟨fun _ => ⟨fun _ => ⟨fun h => absurd h (by decide), fun h => ?_, fun h => absurd h (by decide), fun h => absurd h (by decide), fun h => absurd h (by decide), trivial⟩, fun h => absurd (by decide) h⟩, fun h => absurd (hge 7 hk) h⟩⟩)
      exact ac_to (ac_side hj h6 (hS.okp hw) (hS.okf hw)) ⟨congrArg (fun z => some (Value.int z)) (hS.sd hj), rfl⟩
    · refine acw gdX6_shot 40 rfl (ac_to M1 ⟨fun h => absurd h n01, fun _ => ?_⟩)
      refine ac_to (am_in _ _ _ _) ⟨fun _ => ⟨fun _ => ⟨fun h => absurd rfl h, fun _ => ?_⟩, fun h => absurd (by decide) h⟩, fun h => absurd h (by rw [hin 7 hk]; decide)⟩
      exact ac_to (am_sideOf (by omega)) ⟨rfl, rfl⟩
  · refine ⟨wyA (z_now (o_M O)) (fcr (z_now (o_M O))) j 0, (S, O), (S, O), ?_, ?_, hI0⟩
    · refine acw gdX5_shot 40 rfl (ac_to C1 ⟨fun h => absurd h n01, fun _ => ⟨fun _ => ⟨fun _ => ⟨fun h => absurd h (by decide), fun h => absurd h (by decide), fun h => ?_, fun h => absurd h (by decide), fun h => absurd h (by decide), trivial⟩, fun h => absurd (by decide) h⟩, fun h => absurd (hge 8 hk) h⟩⟩)
      exact ac_to (ac_wayX (by omega)) ⟨congrArg (fun z => some (Value.int z)) (hS.wy hj (by decide)), rfl⟩
    · refine acw gdX6_shot 40 rfl (ac_to M1 ⟨fun h => absurd h n01, fun _ => ?_⟩)
      refine ac_to (am_in _ _ _ _) ⟨fun _ => ⟨fun _ => ⟨fun _ => ⟨fun h => absurd h (by decide), fun _ => ?_⟩, fun h => absurd h (by decide)⟩, fun h => absurd (by decide) h⟩, fun h => absurd h (by rw [hin 8 hk]; decide)⟩
      exact ac_to (am_wayOf (k := 0) (by omega) (by decide)) ⟨rfl, rfl⟩
  · refine ⟨wyA (z_now (o_M O)) (fcr (z_now (o_M O))) j 1, (S, O), (S, O), ?_, ?_, hI0⟩
    · refine acw gdX5_shot 40 rfl (ac_to C1 ⟨fun h => absurd h n01, fun _ => ⟨fun _ => ⟨fun _ => ⟨fun h => absurd h (by decide), fun h => absurd h (by decide), fun h => absurd h (by decide), fun h => ?_, fun h => absurd h (by decide), trivial⟩, fun h => absurd (by decide) h⟩, fun h => absurd (hge 9 hk) h⟩⟩)
      exact ac_to (ac_wayY (by omega)) ⟨congrArg (fun z => some (Value.int z)) (hS.wy hj (by decide)), rfl⟩
    · refine acw gdX6_shot 40 rfl (ac_to M1 ⟨fun h => absurd h n01, fun _ => ?_⟩)
      refine ac_to (am_in _ _ _ _) ⟨fun _ => ⟨fun _ => ⟨fun _ => ⟨fun h => absurd h (by decide), fun _ => ?_⟩, fun h => absurd h (by decide)⟩, fun h => absurd (by decide) h⟩, fun h => absurd h (by rw [hin 9 hk]; decide)⟩
      exact ac_to (am_wayOf (k := 1) (by omega) (by decide)) ⟨rfl, rfl⟩
  · refine ⟨nI (msk (fun t => cnA (z_now (o_M O)) (fcr (z_now (o_M O))) j t) n), (S, O), (S, O), ?_, ?_, hI0⟩
    · refine acw gdX5_shot 40 rfl (ac_to C1 ⟨fun h => absurd h n01, fun _ => ⟨fun _ => ⟨fun _ => ⟨fun h => absurd h (by decide), fun h => absurd h (by decide), fun h => absurd h (by decide), fun h => absurd h (by decide), fun h => ?_, trivial⟩, fun h => absurd (by decide) h⟩, fun h => absurd (hge 10 hk) h⟩⟩)
      refine ac_to (ac_partners hj h6 hS.2.1 (hS.okp hw) (hS.okf hw)) ⟨?_, rfl⟩
      rw [msk_cg (q := fun t => cnA (z_now (o_M O)) (fcr (z_now (o_M O))) j t) n (fun s hs => hS.cn hj hs)]
    · refine acw gdX6_shot 40 rfl (ac_to M1 ⟨fun h => absurd h n01, fun _ => ?_⟩)
      refine ac_to (am_in _ _ _ _) ⟨fun _ => ⟨fun _ => ⟨fun _ => ⟨fun _ => ?_, fun h => absurd (by decide) h⟩, fun h => absurd h (by decide)⟩, fun h => absurd (by decide) h⟩, fun h => absurd h (by rw [hin 10 hk]; decide)⟩
      exact ac_to (am_cutsOf hj hw.2.2.1 h6) ⟨rfl, rfl⟩
/-! edit -/
theorem ct_some {a b : Option Nat} (h : ctO a b = true) : ∃ s t, a = some s ∧ b = some t ∧ s ≠ t := by
  cases a with
  | none => cases b <;> cases h
  | some s =>
    cases b with
    | none => cases h
    | some t => exact ⟨s, t, rfl, rfl, by simpa [ctO] using h⟩
theorem am_edit {eo : Nat → Option Nat} {m n k : Nat} (hk : k < 5) (hw : WfR (z_now (o_M O)) eo m n) : ACe g mX6_edit [.ref 94, .int (nI k)] (lay (S, O)) (some (.int (if k = 4 then nI (pop6 (usd eo m)) else nI (cnt (pE (z_now (o_M O)) eo m k) m)))) (lay (S, O)) := by
  obtain ⟨w4, h8, w13, h6, wp, wf, we, wn⟩ := hw
  have e4 : z_now (o_M (S, O).snd) 4 = nI m := w4
  have hu : ∀ i, i ≤ m → usd eo i < 64 := usd_lt (m := m) (fun l hl s hs => Nat.lt_of_lt_of_le ((we l (by omega)).2 s hs) h6)
  refine acw gdX6_edit 60 rfl (ac_to (am_in _ _ _ _) ⟨fun _ => ?_, fun h => absurd h (by rw [show bi (!decide (nI k < 0) && !decide (4 < nI k)) = 1 from in_t (n := 4) (by omega) (by decide) rfl]; decide)⟩)
  refine dn (n := m) (P := fun i => AW g mX6_edit _ 0 0 18 [some (.ref 94), some (.int (nI k)), some (.int (nI (usd eo i))), some (.int (nI (cnt (pE (z_now (o_M O)) eo m k) i))), some (.int (nI i)), none, none, none, none] [] (lay (S, O))) ?_ (fun i hi ih => ?_) 0 (Nat.zero_le _)
  · refine lpw gdX6_edit 60 ⟨_, _, rfl, vlit (j := 4) (by decide) (by decide), ?_⟩
    rw [vcl (x := 4) (j := 4) rfl (by decide), e4]
    refine ⟨fun _ => ⟨fun h1 => ?_, fun h1 => ?_⟩, fun h => absurd (nle (by omega) (by omega)) h⟩
    · have h2 : ¬ k = 4 := fun z => h1 (by rw [z]; rfl)
      rw [if_neg h2]
      exact ⟨rfl, rfl⟩
    · have h2 : k = 4 := (neqI (b := 4) (by omega) (by omega)).mp h1
      rw [if_pos h2]
      exact ac_to (am_ones (hu m (Nat.le_refl m)) _) ⟨rfl, rfl⟩
  · have ed := we i (by omega)
    have e56 : 56 + nI i = nI (56 + i) := by simp only [nlit, nI_add]
    have o6 : okO 6 (eo i) := fun s hs => Nat.lt_of_lt_of_le (ed.2 s hs) h6
    -- the end of a turn
    have J213 : ∀ (x : Int32), x = nI (cnt (pE (z_now (o_M O)) eo m k) (i + 1)) → ∀ a6 a7 a8, AW g mX6_edit (fun r h' => r = some (.int (if k = 4 then nI (pop6 (usd eo m)) else nI (cnt (pE (z_now (o_M O)) eo m k) m))) ∧ h' = lay (S, O)) 0 0 213 [some (.ref 94), some (.int (nI k)), some (.int (nI (usd eo (i + 1)))), some (.int x), some (.int (nI i)), some (.int (sh (eo i))), a6, a7, a8] [] (lay (S, O)) := by
      intro x hx a6 a7 a8
      refine lpw gdX6_edit 60 (awf ?_ ih)
      rw [hx, ← nI_1]
      exact ⟨rfl, rfl, rfl, rfl, rfl, trivial⟩
    have cb : ∀ b : Bool, b = pE (z_now (o_M O)) eo m k i → nI (cnt (pE (z_now (o_M O)) eo m k) i) + bi b = nI (cnt (pE (z_now (o_M O)) eo m k) (i + 1)) := by
      intro b hb
      cases hp : pE (z_now (o_M O)) eo m k i with
      | false => rw [hb, hp, cnt_f hp]; exact nI_add _ 0
      | true => rw [hb, hp, cnt_t hp]; exact nI_1 _
    -- behind what counts for a pair
    have J198 : ∀ (N : Int32) (b : Bool), N + bi b = nI (cnt (pE (z_now (o_M O)) eo m k) (i + 1)) → ∀ x6 x7 : Int32, AW g mX6_edit (fun r h' => r = some (.int (if k = 4 then nI (pop6 (usd eo m)) else nI (cnt (pE (z_now (o_M O)) eo m k) m))) ∧ h' = lay (S, O)) 0 0 198 [some (.ref 94), some (.int (nI k)), some (.int (nI (usd eo (i + 1)))), some (.int N), some (.int (nI i)), some (.int (sh (eo i))), some (.int x6), some (.int x7), none] [.int (bi b)] (lay (S, O)) := by
      intro N b hN x6 x7
      refine lpw gdX6_edit 60 ⟨fun h3 => ?_, fun h3 => ?_⟩
      · rw [h3] at hN
        exact lpw gdX6_edit 60 (J213 _ hN _ _ _)
      · rw [(bi_01 b).resolve_left h3] at hN
        exact lpw gdX6_edit 60 (J213 _ hN _ _ _)
    -- the pair
    have J131 : i + 1 < m → ∀ (N : Int32) (b : Bool), N = (if k = 0 then nI (cnt (pE (z_now (o_M O)) eo m k) (i + 1)) else nI (cnt (pE (z_now (o_M O)) eo m k) i)) → b = ctO (eo i) (eo (i + 1)) → AW g mX6_edit (fun r h' => r = some (.int (if k = 4 then nI (pop6 (usd eo m)) else nI (cnt (pE (z_now (o_M O)) eo m k) m))) ∧ h' = lay (S, O)) 0 0 131 [some (.ref 94), some (.int (nI k)), some (.int (nI (usd eo (i + 1)))), some (.int N), some (.int (nI i)), some (.int (sh (eo i))), some (.int (sh (eo (i + 1)))), none, none] [.int (bi b)] (lay (S, O)) := by
      intro h1 N b hN hb
      have ed2 := we (i + 1) (by omega)
      have o62 : okO 6 (eo (i + 1)) := fun s hs => Nat.lt_of_lt_of_le (ed2.2 s hs) h6
      by_cases h2 : k = 0
      · subst h2
        rw [if_pos rfl] at hN
        refine lpw gdX6_edit 60 ⟨fun _ => ⟨fun _ => ⟨fun _ => ?_, fun h => absurd h (by decide)⟩, fun h => absurd h (by decide)⟩, fun h => absurd h (by decide)⟩
        exact J198 N false (by rw [hN]; exact nI_add _ 0) _ _
      rw [if_neg h2] at hN
      subst hN
      rcases (show k = 1 ∨ k = 2 ∨ k = 3 ∨ k = 4 by omega) with rfl | rfl | rfl | rfl
      · have ep : pE (z_now (o_M O)) eo m 1 i = (ctO (eo i) (eo (i + 1)) && !cnO (z_now (o_M O)) (fcr (z_now (o_M O))) (eo i) (eo (i + 1))) := by simp [pE, h1]
        refine lpw gdX6_edit 60 ⟨fun h => absurd rfl h, fun _ => ⟨fun h3 => ?_, fun h3 => ?_⟩⟩
        · rw [bi_e0, hb] at h3
          refine ⟨fun _ => ⟨fun _ => ?_, fun h => absurd h (by decide)⟩, fun h => absurd h (by decide)⟩
          exact J198 _ false (cb false (by rw [ep, h3]; rfl)) _ _
        · rw [bi_e0, Bool.not_eq_false, hb] at h3
          obtain ⟨s, t, es, et, -⟩ := ct_some h3
          have hs := ed.2 s es
          have ht := ed2.2 t et
          rw [es, et]
          refine ac_to (am_canCut (by omega) (by omega)) ⟨fun h4 => ?_, fun h4 => ?_⟩
          · rw [bi_e0] at h4
            have := J198 _ true (cb true (by rw [ep, h3, es, et]; simp [cnO, h4]))
            rw [es] at this
            exact this _ _
          · rw [bi_e0, Bool.not_eq_false] at h4
            refine ⟨fun _ => ⟨fun _ => ?_, fun h => absurd h (by decide)⟩, fun h => absurd h (by decide)⟩
            have := J198 _ false (cb false (by rw [ep, h3, es, et]; simp [cnO, h4]))
            rw [es] at this
            exact this _ _
      · have ep : pE (z_now (o_M O)) eo m 2 i = (reO (fcr (z_now (o_M O))) (spr (z_now (o_M O))) i (eo i) && reO (fcr (z_now (o_M O))) (spr (z_now (o_M O))) (i + 1) (eo (i + 1))) := by simp [pE, h1]
        refine lpw gdX6_edit 60 ⟨fun _ => ⟨fun h => absurd rfl h, fun _ => ?_⟩, fun h => absurd h (by decide)⟩
        refine ac_to (am_isReaction (by omega) o6) ⟨fun h3 => ?_, fun h3 => ?_⟩
        · rw [bi_e0] at h3
          refine ⟨fun _ => ?_, fun h => absurd h (by decide)⟩
          exact J198 _ false (cb false (by rw [ep, h3]; rfl)) _ _
        rw [bi_e0, Bool.not_eq_false] at h3
        refine ac_ar (by rw [nI_1]) (ac_to (am_isReaction (l := i + 1) (by omega) o62) ⟨fun h4 => ?_, fun h4 => ?_⟩)
        · rw [bi_e0, Bool.not_eq_false] at h4
          exact J198 _ true (cb true (by rw [ep, h3, h4]; rfl)) _ _
        · rw [bi_e0] at h4
          refine ⟨fun _ => ?_, fun h => absurd h (by decide)⟩
          exact J198 _ false (cb false (by rw [ep, h3, h4]; rfl)) _ _
      · have ep : pE (z_now (o_M O)) eo m 3 i = ctO (eo i) (eo (i + 1)) := by simp [pE, h1]
        refine lpw gdX6_edit 60 ⟨fun _ => ⟨fun _ => ⟨fun h => absurd rfl h, fun _ => ⟨fun h3 => ?_, fun h3 => ?_⟩⟩, fun h => absurd h (by decide)⟩, fun h => absurd h (by decide)⟩
        · rw [bi_e0, hb] at h3
          exact J198 _ false (cb false (by rw [ep, h3])) _ _
        · rw [bi_e0, Bool.not_eq_false, hb] at h3
          exact J198 _ true (cb true (by rw [ep, h3])) _ _
      · have ep : pE (z_now (o_M O)) eo m 4 i = false := by simp [pE]
        refine lpw gdX6_edit 60 ⟨fun _ => ⟨fun _ => ⟨fun _ => ?_, fun h => absurd h (by decide)⟩, fun h => absurd h (by decide)⟩, fun h => absurd h (by decide)⟩
        exact J198 _ false (cb false ep.symm) _ _
    -- behind the line itself
    have J76 : ∀ (b : Bool), b = (decide (k = 0) && pE (z_now (o_M O)) eo m k i) → AW g mX6_edit (fun r h' => r = some (.int (if k = 4 then nI (pop6 (usd eo m)) else nI (cnt (pE (z_now (o_M O)) eo m k) m))) ∧ h' = lay (S, O)) 0 0 76 [some (.ref 94), some (.int (nI k)), some (.int (nI (usd eo (i + 1)))), some (.int (nI (cnt (pE (z_now (o_M O)) eo m k) i))), some (.int (nI i)), some (.int (sh (eo i))), none, none, none] [.int (bi b), .int (nI (cnt (pE (z_now (o_M O)) eo m k) i))] (lay (S, O)) := by
      intro b hb
      refine lpw gdX6_edit 60 ⟨_, _, rfl, vlit (j := 4) (by decide) (by decide), ?_⟩
      rw [vcl (x := 4) (j := 4) rfl (by decide), e4]
      have ei : nI i + 1 = nI (i + 1) := nI_1 i
      refine ⟨fun h1 => ?_, fun h1 => ?_⟩
      · refine J213 _ ?_ _ _ _
        have h1 : ¬ i + 1 < m := fun z => absurd h1 (by rw [ei]; exact nge z (by omega))
        by_cases h0 : k = 0
        · rw [decide_eq_true h0, Bool.true_and] at hb
          exact cb b hb
        · have hp : pE (z_now (o_M O)) eo m k i = false := by simp [pE, h0, h1]
          exact cb b (by rw [hb, hp, Bool.and_false])
      · have h1 : i + 1 < m := by
          rcases Nat.lt_or_ge (i + 1) m with z | z
          · exact z
          · exact absurd (by rw [ei]; exact nle z (by omega)) h1
        have ed2 := we (i + 1) (by omega)
        have e57 : 56 + nI i + 1 = nI (56 + (i + 1)) := by rw [e56, nI_1]; rfl
        refine ⟨_, _, rfl, vin e57 (by omega) (by decide), ?_⟩
        rw [vcl e57 (by omega), show z_now (o_M (S, O).snd) (56 + (i + 1)) = sh (eo (i + 1)) from ed2.1]
        have hN : nI (cnt (pE (z_now (o_M O)) eo m k) i) + bi b = (if k = 0 then nI (cnt (pE (z_now (o_M O)) eo m k) (i + 1)) else nI (cnt (pE (z_now (o_M O)) eo m k) i)) := by
          by_cases h0 : k = 0
          · rw [if_pos h0]
            rw [decide_eq_true h0, Bool.true_and] at hb
            exact cb b hb
          · rw [if_neg h0, hb, decide_eq_false h0]
            exact nI_add _ 0
        refine ⟨fun h3 => ?_, fun h3 => ⟨fun h4 => ?_, fun h4 => ⟨fun h5 => ?_, fun h5 => ?_⟩⟩⟩
        · rw [sh_none ed.2 (by omega)] at h3
          exact J131 h1 _ false hN (by rw [h3]; rfl)
        · rw [sh_none ed2.2 (by omega)] at h4
          exact J131 h1 _ false hN (by rw [h4]; cases eo i <;> rfl)
        · have := (sh_eq ed.2 ed2.2 (by omega) (fun z => h3 ((sh_none ed.2 (by omega)).mpr z)) (fun z => h4 ((sh_none ed2.2 (by omega)).mpr z))).mp h5
          exact J131 h1 _ false hN this.symm
        · have h6 := fun z => h5 ((sh_eq ed.2 ed2.2 (by omega) (fun z => h3 ((sh_none ed.2 (by omega)).mpr z)) (fun z => h4 ((sh_none ed2.2 (by omega)).mpr z))).mpr z)
          exact J131 h1 _ true hN (by simpa using h6)
    -- behind what is used
    have J57 : ∀ x : Int32, nI (usd eo i) ||| x = nI (usd eo (i + 1)) → AW g mX6_edit (fun r h' => r = some (.int (if k = 4 then nI (pop6 (usd eo m)) else nI (cnt (pE (z_now (o_M O)) eo m k) m))) ∧ h' = lay (S, O)) 0 0 57 [some (.ref 94), some (.int (nI k)), some (.int (nI (usd eo i))), some (.int (nI (cnt (pE (z_now (o_M O)) eo m k) i))), some (.int (nI i)), some (.int (sh (eo i))), none, none, none] [.int x, .int (nI (usd eo i))] (lay (S, O)) := by
      intro x hx
      refine lpw gdX6_edit 60 ?_
      rw [← hx] at J76
      refine ⟨fun h1 => ?_, fun h1 => ?_⟩
      · have h2 : ¬ k = 0 := fun z => h1 (by rw [z]; rfl)
        exact J76 false (by simp [h2])
      · have h2 : k = 0 := (neqI (b := 0) (by omega) (by omega)).mp h1
        refine ⟨fun h3 => ?_, fun h3 => ?_⟩
        · rw [sh_none ed.2 (by omega)] at h3
          exact J76 false (by simp [h2, pE, h3])
        · rw [sh_none ed.2 (by omega)] at h3
          exact J76 true (by simp [h2, pE, h3])
    refine lpw gdX6_edit 60 ⟨_, _, rfl, vlit (j := 4) (by decide) (by decide), ?_⟩
    rw [vcl (x := 4) (j := 4) rfl (by decide), e4]
    refine ⟨fun h => absurd h (nge (by omega) (by omega)), fun _ => ?_⟩
    refine ⟨_, _, rfl, vin e56 (by omega) (by decide), ?_⟩
    rw [vcl e56 (by omega), show z_now (o_M (S, O).snd) (56 + i) = sh (eo i) from ed.1]
    cases hs : eo i with
    | none =>
      rw [hs] at J57
      refine ⟨fun h => absurd rfl h, fun _ => ?_⟩
      exact J57 0 (by rw [or0]; simp [usd, hs])
    | some s =>
      rw [hs] at J57
      have h1 := ed.2 s hs
      refine ⟨fun _ => ?_, fun h => absurd h (nI_ne9 (by omega))⟩
      exact J57 _ (by rw [show usd eo (i + 1) = usd eo i ||| 2 ^ s by simp [usd, hs]]; exact (or_lt _ (hu i (by omega)) s (by omega)).2)
theorem pr_edit (x : Int32) : Pr g mX5_edit mX6_edit [.int x] := by
  rintro ⟨S, O⟩ hI
  have hI0 := hI
  obtain ⟨⟨eo, m, n, hS, hw⟩, -⟩ := hI
  by_cases hx : x < 0 ∨ 4 < x
  · refine ⟨-1, (S, O), (S, O), ?_, ?_, hI0⟩
    · have hx2 : x.toInt < 0 ∨ 4 < x.toInt := by
        rcases hx with hx | hx
        · exact Or.inl (Int32.lt_iff_toInt_lt.mp hx)
        · exact Or.inr (Int32.lt_iff_toInt_lt.mp hx)
      refine acw gdX5_edit 40 rfl ⟨fun _ => ⟨rfl, rfl⟩, fun h => ?_, fun h => ?_, fun h => ?_, fun h => ?_, fun h => ?_, trivial⟩ <;> (exfalso; omega)
    · refine acw gdX6_edit 40 rfl (ac_to (am_in _ _ _ _) ⟨fun h1 => ?_, fun _ => ⟨rfl, rfl⟩⟩)
      rw [bi_e0, Bool.not_eq_false] at h1
      simp only [Bool.and_eq_true, Bool.not_eq_true', decide_eq_false_iff_not] at h1
      rcases hx with hx | hx
      · exact absurd hx h1.1
      · exact absurd hx h1.2
  have h1 : ¬ x < 0 := fun z => hx (Or.inl z)
  have h2 : ¬ 4 < x := fun z => hx (Or.inr z)
  obtain ⟨k, hk, rfl⟩ := nI_of2 (M := 4) (n := 4) (by decide) h1 (Int32.not_lt.mp h2)
  have hE := hS.ed hw
  have hM := am_edit (g := g) (S := S) (O := O) (eo := eo) (m := m) (n := n) (k := k) (by omega) hw
  refine ⟨_, (S, O), (S, O), ?_, hM, hI0⟩
  have hd := fun l (hl : l < m - 1) => hS.ro (l := l) (hE.2.2.2 l (by have := hE.2.1; omega)).2 (by omega)
  rcases (show k = 0 ∨ k = 1 ∨ k = 2 ∨ k = 3 ∨ k = 4 by omega) with rfl | rfl | rfl | rfl | rfl
  · refine acw gdX5_edit 40 rfl ⟨fun h => absurd h (by decide), fun h => ?_, fun h => absurd h (by decide), fun h => absurd h (by decide), fun h => absurd h (by decide), fun h => absurd h (by decide), trivial⟩
    refine ac_to (ac_lws hE) ⟨?_, rfl⟩
    rw [if_neg (by decide)]
    rfl
  · refine acw gdX5_edit 40 rfl ⟨fun h => absurd h (by decide), fun h => absurd h (by decide), fun h => ?_, fun h => absurd h (by decide), fun h => absurd h (by decide), fun h => absurd h (by decide), trivial⟩
    refine ac_to (ac_wrongCuts hE (hS.okp hw) (hS.okf hw)) ⟨?_, rfl⟩
    rw [if_neg (by decide), ← cnt_pred]
    refine congrArg (fun z => some (Value.int (nI z))) (cnt_cg m (fun l hl => ?_))
    by_cases h : l + 1 < m
    · have := hE.2.1
      rw [hS.co (hE.2.2.2 l (by omega)).2 (hE.2.2.2 (l + 1) (by omega)).2]
      simp [pE]
    · simp [pE, h]
  · refine acw gdX5_edit 40 rfl ⟨fun h => absurd h (by decide), fun h => absurd h (by decide), fun h => absurd h (by decide), fun h => ?_, fun h => absurd h (by decide), fun h => absurd h (by decide), trivial⟩
    refine ac_to (ac_doubleReactions hE) ⟨?_, rfl⟩
    rw [if_neg (by decide), ← cnt_pred]
    refine congrArg (fun z => some (Value.int (nI z))) (cnt_cg m (fun l hl => ?_))
    by_cases h : l + 1 < m
    · have := hE.2.1
      rw [hS.ro (hE.2.2.2 l (by omega)).2 (by omega), hS.ro (hE.2.2.2 (l + 1) (by omega)).2 h]
      simp [pE]
    · simp [pE, h]
  · refine acw gdX5_edit 40 rfl ⟨fun h => absurd h (by decide), fun h => absurd h (by decide), fun h => absurd h (by decide), fun h => absurd h (by decide), fun h => ?_, fun h => absurd h (by decide), trivial⟩
    refine ac_to (ac_cuts hE) ⟨?_, rfl⟩
    rw [if_neg (by decide), ← cnt_pred]
    refine congrArg (fun z => some (Value.int (nI z))) (cnt_cg m (fun l hl => ?_))
    simp [pE]
  · refine acw gdX5_edit 40 rfl ⟨fun h => absurd h (by decide), fun h => absurd h (by decide), fun h => absurd h (by decide), fun h => absurd h (by decide), fun h => absurd h (by decide), fun h => ?_, trivial⟩
    exact ac_to (ac_shotsUsed hE) ⟨rfl, rfl⟩
end P5
end
section
/-! ===== copies: scenes of the class, rows of the model ===== -/
/-- A, written over B -/
def bec (A B : Scn) : Scn := (va_cpy (s_pl A) (s_pl B) 0 0 4, va_cpy (s_sp A) (s_sp B) 0 0 8, va_cpy (s_ed A) (s_ed B) 0 0 8, va_cpy (s_fc A) (s_fc B) 0 0 42, s_nl A, s_ns A)
def putP {α : Type} (P : Nat → α) (i : Nat) (v : α) : Nat → α := fun j => if j = i then v else P j
theorem Rw.bec {A B : Scn} {r : Fn} (h : Rw A r) : Rw (bec A B) r := by
  obtain ⟨eo, m, n, hS, hw⟩ := h
  have h8 := hw.2.1
  have h6 := hw.2.2.2.1
  refine ⟨eo, m, n, ⟨hS.1, hS.2.1, fun i hi => ?_, fun l hl => ?_, fun i hi => ?_, fun l hl => ?_⟩, hw⟩
  · exact (sb_cpy0 hi).trans (hS.2.2.1 i hi)
  · exact (sb_cpy0 (by omega)).trans (hS.2.2.2.1 l hl)
  · exact (sb_cpy0 (by omega)).trans (hS.2.2.2.2.1 i hi)
  · exact (sb_cpy0 hl).trans (hS.2.2.2.2.2 l hl)
theorem Rw.cg {A : Scn} {r r' : Fn} (h : Rw A r) (e : ∀ i, i < 64 → r' i = r i) : Rw A r' := by
  obtain ⟨eo, m, n, hS, hw⟩ := h
  have h8 := hw.2.1
  have h6 := hw.2.2.2.1
  refine ⟨eo, m, n, ⟨hS.1, hS.2.1, fun i hi => ?_, fun l hl => ?_, fun i hi => ?_, fun l hl => ?_⟩, ⟨?_, h8, ?_, h6, fun i hi => ?_, fun s hs w hw2 => ?_, fun l hl => ?_, hw.2.2.2.2.2.2.2⟩⟩
  · rw [e i (by omega)]; exact hS.2.2.1 i hi
  · rw [e _ (by omega)]; exact hS.2.2.2.1 l hl
  · rw [e _ (by omega)]; exact hS.2.2.2.2.1 i hi
  · rw [e _ (by omega)]; exact hS.2.2.2.2.2 l hl
  · rw [e _ (by decide)]; exact hw.1
  · rw [e _ (by decide)]; exact hw.2.2.1
  · rw [e _ (by omega)]; exact hw.2.2.2.2.1 i hi
  · show ∃ q : Nat, q ≤ 9 ∧ r' (14 + (7 * s + w)) = nI q
    rw [e _ (by omega)]
    exact hw.2.2.2.2.2.1 s hs w hw2
  · rw [e _ (by omega)]; exact hw.2.2.2.2.2.2.1 l hl
section CP
variable {g : Glob} {S : Scn} {O : Oth}
theorem ac_becP0 : ACe g mX3_become [.ref 13, .ref 1] (lay (S, O)) none (lay (S, o_P' O (putP (o_P O) 0 (bec S (o_P O 0))))) := by
  refine acw gdX3_become 80 rfl ?_
  refine ⟨_, _, _, _, rfl, rfl, ⟨by decide, by decide, by decide, by decide, by decide⟩, ?_⟩
  refine ⟨_, _, _, _, rfl, rfl, ⟨by decide, by decide, by decide, by decide, by decide⟩, ?_⟩
  refine ⟨_, _, _, _, rfl, rfl, ⟨by decide, by decide, by decide, by decide, by decide⟩, ?_⟩
  refine ⟨_, _, _, _, rfl, rfl, ⟨by decide, by decide, by decide, by decide, by decide⟩, ?_⟩
  exact ⟨rfl, rfl⟩
theorem ac_becQ0 : ACe g mX3_become [.ref 1, .ref 13] (lay (S, O)) none (lay (bec (o_P O 0) S, O)) := by
  refine acw gdX3_become 80 rfl ?_
  refine ⟨_, _, _, _, rfl, rfl, ⟨by decide, by decide, by decide, by decide, by decide⟩, ?_⟩
  refine ⟨_, _, _, _, rfl, rfl, ⟨by decide, by decide, by decide, by decide, by decide⟩, ?_⟩
  refine ⟨_, _, _, _, rfl, rfl, ⟨by decide, by decide, by decide, by decide, by decide⟩, ?_⟩
  refine ⟨_, _, _, _, rfl, rfl, ⟨by decide, by decide, by decide, by decide, by decide⟩, ?_⟩
  exact ⟨rfl, rfl⟩
theorem ac_becP1 : ACe g mX3_become [.ref 18, .ref 1] (lay (S, O)) none (lay (S, o_P' O (putP (o_P O) 1 (bec S (o_P O 1))))) := by
  refine acw gdX3_become 80 rfl ?_
  refine ⟨_, _, _, _, rfl, rfl, ⟨by decide, by decide, by decide, by decide, by decide⟩, ?_⟩
  refine ⟨_, _, _, _, rfl, rfl, ⟨by decide, by decide, by decide, by decide, by decide⟩, ?_⟩
  refine ⟨_, _, _, _, rfl, rfl, ⟨by decide, by decide, by decide, by decide, by decide⟩, ?_⟩
  refine ⟨_, _, _, _, rfl, rfl, ⟨by decide, by decide, by decide, by decide, by decide⟩, ?_⟩
  exact ⟨rfl, rfl⟩
theorem ac_becQ1 : ACe g mX3_become [.ref 1, .ref 18] (lay (S, O)) none (lay (bec (o_P O 1) S, O)) := by
  refine acw gdX3_become 80 rfl ?_
  refine ⟨_, _, _, _, rfl, rfl, ⟨by decide, by decide, by decide, by decide, by decide⟩, ?_⟩
  refine ⟨_, _, _, _, rfl, rfl, ⟨by decide, by decide, by decide, by decide, by decide⟩, ?_⟩
  refine ⟨_, _, _, _, rfl, rfl, ⟨by decide, by decide, by decide, by decide, by decide⟩, ?_⟩
  refine ⟨_, _, _, _, rfl, rfl, ⟨by decide, by decide, by decide, by decide, by decide⟩, ?_⟩
  exact ⟨rfl, rfl⟩
theorem ac_becP2 : ACe g mX3_become [.ref 23, .ref 1] (lay (S, O)) none (lay (S, o_P' O (putP (o_P O) 2 (bec S (o_P O 2))))) := by
  refine acw gdX3_become 80 rfl ?_
  refine ⟨_, _, _, _, rfl, rfl, ⟨by decide, by decide, by decide, by decide, by decide⟩, ?_⟩
  refine ⟨_, _, _, _, rfl, rfl, ⟨by decide, by decide, by decide, by decide, by decide⟩, ?_⟩
  refine ⟨_, _, _, _, rfl, rfl, ⟨by decide, by decide, by decide, by decide, by decide⟩, ?_⟩
  refine ⟨_, _, _, _, rfl, rfl, ⟨by decide, by decide, by decide, by decide, by decide⟩, ?_⟩
  exact ⟨rfl, rfl⟩
theorem ac_becQ2 : ACe g mX3_become [.ref 1, .ref 23] (lay (S, O)) none (lay (bec (o_P O 2) S, O)) := by
  refine acw gdX3_become 80 rfl ?_
  refine ⟨_, _, _, _, rfl, rfl, ⟨by decide, by decide, by decide, by decide, by decide⟩, ?_⟩
  refine ⟨_, _, _, _, rfl, rfl, ⟨by decide, by decide, by decide, by decide, by decide⟩, ?_⟩
  refine ⟨_, _, _, _, rfl, rfl, ⟨by decide, by decide, by decide, by decide, by decide⟩, ?_⟩
  refine ⟨_, _, _, _, rfl, rfl, ⟨by decide, by decide, by decide, by decide, by decide⟩, ?_⟩
  exact ⟨rfl, rfl⟩
theorem ac_becP3 : ACe g mX3_become [.ref 28, .ref 1] (lay (S, O)) none (lay (S, o_P' O (putP (o_P O) 3 (bec S (o_P O 3))))) := by
  refine acw gdX3_become 80 rfl ?_
  refine ⟨_, _, _, _, rfl, rfl, ⟨by decide, by decide, by decide, by decide, by decide⟩, ?_⟩
  refine ⟨_, _, _, _, rfl, rfl, ⟨by decide, by decide, by decide, by decide, by decide⟩, ?_⟩
  refine ⟨_, _, _, _, rfl, rfl, ⟨by decide, by decide, by decide, by decide, by decide⟩, ?_⟩
  refine ⟨_, _, _, _, rfl, rfl, ⟨by decide, by decide, by decide, by decide, by decide⟩, ?_⟩
  exact ⟨rfl, rfl⟩
theorem ac_becQ3 : ACe g mX3_become [.ref 1, .ref 28] (lay (S, O)) none (lay (bec (o_P O 3) S, O)) := by
  refine acw gdX3_become 80 rfl ?_
  refine ⟨_, _, _, _, rfl, rfl, ⟨by decide, by decide, by decide, by decide, by decide⟩, ?_⟩
  refine ⟨_, _, _, _, rfl, rfl, ⟨by decide, by decide, by decide, by decide, by decide⟩, ?_⟩
  refine ⟨_, _, _, _, rfl, rfl, ⟨by decide, by decide, by decide, by decide, by decide⟩, ?_⟩
  refine ⟨_, _, _, _, rfl, rfl, ⟨by decide, by decide, by decide, by decide, by decide⟩, ?_⟩
  exact ⟨rfl, rfl⟩
theorem ac_becP4 : ACe g mX3_become [.ref 33, .ref 1] (lay (S, O)) none (lay (S, o_P' O (putP (o_P O) 4 (bec S (o_P O 4))))) := by
  refine acw gdX3_become 80 rfl ?_
  refine ⟨_, _, _, _, rfl, rfl, ⟨by decide, by decide, by decide, by decide, by decide⟩, ?_⟩
  refine ⟨_, _, _, _, rfl, rfl, ⟨by decide, by decide, by decide, by decide, by decide⟩, ?_⟩
  refine ⟨_, _, _, _, rfl, rfl, ⟨by decide, by decide, by decide, by decide, by decide⟩, ?_⟩
  refine ⟨_, _, _, _, rfl, rfl, ⟨by decide, by decide, by decide, by decide, by decide⟩, ?_⟩
  exact ⟨rfl, rfl⟩
theorem ac_becQ4 : ACe g mX3_become [.ref 1, .ref 33] (lay (S, O)) none (lay (bec (o_P O 4) S, O)) := by
  refine acw gdX3_become 80 rfl ?_
  refine ⟨_, _, _, _, rfl, rfl, ⟨by decide, by decide, by decide, by decide, by decide⟩, ?_⟩
  refine ⟨_, _, _, _, rfl, rfl, ⟨by decide, by decide, by decide, by decide, by decide⟩, ?_⟩
  refine ⟨_, _, _, _, rfl, rfl, ⟨by decide, by decide, by decide, by decide, by decide⟩, ?_⟩
  refine ⟨_, _, _, _, rfl, rfl, ⟨by decide, by decide, by decide, by decide, by decide⟩, ?_⟩
  exact ⟨rfl, rfl⟩
theorem ac_becP5 : ACe g mX3_become [.ref 38, .ref 1] (lay (S, O)) none (lay (S, o_P' O (putP (o_P O) 5 (bec S (o_P O 5))))) := by
  refine acw gdX3_become 80 rfl ?_
  refine ⟨_, _, _, _, rfl, rfl, ⟨by decide, by decide, by decide, by decide, by decide⟩, ?_⟩
  refine ⟨_, _, _, _, rfl, rfl, ⟨by decide, by decide, by decide, by decide, by decide⟩, ?_⟩
  refine ⟨_, _, _, _, rfl, rfl, ⟨by decide, by decide, by decide, by decide, by decide⟩, ?_⟩
  refine ⟨_, _, _, _, rfl, rfl, ⟨by decide, by decide, by decide, by decide, by decide⟩, ?_⟩
  exact ⟨rfl, rfl⟩
theorem ac_becQ5 : ACe g mX3_become [.ref 1, .ref 38] (lay (S, O)) none (lay (bec (o_P O 5) S, O)) := by
  refine acw gdX3_become 80 rfl ?_
  refine ⟨_, _, _, _, rfl, rfl, ⟨by decide, by decide, by decide, by decide, by decide⟩, ?_⟩
  refine ⟨_, _, _, _, rfl, rfl, ⟨by decide, by decide, by decide, by decide, by decide⟩, ?_⟩
  refine ⟨_, _, _, _, rfl, rfl, ⟨by decide, by decide, by decide, by decide, by decide⟩, ?_⟩
  refine ⟨_, _, _, _, rfl, rfl, ⟨by decide, by decide, by decide, by decide, by decide⟩, ?_⟩
  exact ⟨rfl, rfl⟩
theorem ac_becP6 : ACe g mX3_become [.ref 43, .ref 1] (lay (S, O)) none (lay (S, o_P' O (putP (o_P O) 6 (bec S (o_P O 6))))) := by
  refine acw gdX3_become 80 rfl ?_
  refine ⟨_, _, _, _, rfl, rfl, ⟨by decide, by decide, by decide, by decide, by decide⟩, ?_⟩
  refine ⟨_, _, _, _, rfl, rfl, ⟨by decide, by decide, by decide, by decide, by decide⟩, ?_⟩
  refine ⟨_, _, _, _, rfl, rfl, ⟨by decide, by decide, by decide, by decide, by decide⟩, ?_⟩
  refine ⟨_, _, _, _, rfl, rfl, ⟨by decide, by decide, by decide, by decide, by decide⟩, ?_⟩
  exact ⟨rfl, rfl⟩
theorem ac_becQ6 : ACe g mX3_become [.ref 1, .ref 43] (lay (S, O)) none (lay (bec (o_P O 6) S, O)) := by
  refine acw gdX3_become 80 rfl ?_
  refine ⟨_, _, _, _, rfl, rfl, ⟨by decide, by decide, by decide, by decide, by decide⟩, ?_⟩
  refine ⟨_, _, _, _, rfl, rfl, ⟨by decide, by decide, by decide, by decide, by decide⟩, ?_⟩
  refine ⟨_, _, _, _, rfl, rfl, ⟨by decide, by decide, by decide, by decide, by decide⟩, ?_⟩
  refine ⟨_, _, _, _, rfl, rfl, ⟨by decide, by decide, by decide, by decide, by decide⟩, ?_⟩
  exact ⟨rfl, rfl⟩
theorem ac_becP7 : ACe g mX3_become [.ref 48, .ref 1] (lay (S, O)) none (lay (S, o_P' O (putP (o_P O) 7 (bec S (o_P O 7))))) := by
  refine acw gdX3_become 80 rfl ?_
  refine ⟨_, _, _, _, rfl, rfl, ⟨by decide, by decide, by decide, by decide, by decide⟩, ?_⟩
  refine ⟨_, _, _, _, rfl, rfl, ⟨by decide, by decide, by decide, by decide, by decide⟩, ?_⟩
  refine ⟨_, _, _, _, rfl, rfl, ⟨by decide, by decide, by decide, by decide, by decide⟩, ?_⟩
  refine ⟨_, _, _, _, rfl, rfl, ⟨by decide, by decide, by decide, by decide, by decide⟩, ?_⟩
  exact ⟨rfl, rfl⟩
theorem ac_becQ7 : ACe g mX3_become [.ref 1, .ref 48] (lay (S, O)) none (lay (bec (o_P O 7) S, O)) := by
  refine acw gdX3_become 80 rfl ?_
  refine ⟨_, _, _, _, rfl, rfl, ⟨by decide, by decide, by decide, by decide, by decide⟩, ?_⟩
  refine ⟨_, _, _, _, rfl, rfl, ⟨by decide, by decide, by decide, by decide, by decide⟩, ?_⟩
  refine ⟨_, _, _, _, rfl, rfl, ⟨by decide, by decide, by decide, by decide, by decide⟩, ?_⟩
  refine ⟨_, _, _, _, rfl, rfl, ⟨by decide, by decide, by decide, by decide, by decide⟩, ?_⟩
  exact ⟨rfl, rfl⟩
theorem ac_becI0 : ACe g mX3_become [.ref 83, .ref 1] (lay (S, O)) none (lay (S, o_I' O (putP (o_I O) 0 (bec S (o_I O 0))))) := by
  refine acw gdX3_become 80 rfl ?_
  refine ⟨_, _, _, _, rfl, rfl, ⟨by decide, by decide, by decide, by decide, by decide⟩, ?_⟩
  refine ⟨_, _, _, _, rfl, rfl, ⟨by decide, by decide, by decide, by decide, by decide⟩, ?_⟩
  refine ⟨_, _, _, _, rfl, rfl, ⟨by decide, by decide, by decide, by decide, by decide⟩, ?_⟩
  refine ⟨_, _, _, _, rfl, rfl, ⟨by decide, by decide, by decide, by decide, by decide⟩, ?_⟩
  exact ⟨rfl, rfl⟩
theorem ac_becJ0 : ACe g mX3_become [.ref 1, .ref 83] (lay (S, O)) none (lay (bec (o_I O 0) S, O)) := by
  refine acw gdX3_become 80 rfl ?_
  refine ⟨_, _, _, _, rfl, rfl, ⟨by decide, by decide, by decide, by decide, by decide⟩, ?_⟩
  refine ⟨_, _, _, _, rfl, rfl, ⟨by decide, by decide, by decide, by decide, by decide⟩, ?_⟩
  refine ⟨_, _, _, _, rfl, rfl, ⟨by decide, by decide, by decide, by decide, by decide⟩, ?_⟩
  refine ⟨_, _, _, _, rfl, rfl, ⟨by decide, by decide, by decide, by decide, by decide⟩, ?_⟩
  exact ⟨rfl, rfl⟩
theorem ac_becI1 : ACe g mX3_become [.ref 88, .ref 1] (lay (S, O)) none (lay (S, o_I' O (putP (o_I O) 1 (bec S (o_I O 1))))) := by
  refine acw gdX3_become 80 rfl ?_
  refine ⟨_, _, _, _, rfl, rfl, ⟨by decide, by decide, by decide, by decide, by decide⟩, ?_⟩
  refine ⟨_, _, _, _, rfl, rfl, ⟨by decide, by decide, by decide, by decide, by decide⟩, ?_⟩
  refine ⟨_, _, _, _, rfl, rfl, ⟨by decide, by decide, by decide, by decide, by decide⟩, ?_⟩
  refine ⟨_, _, _, _, rfl, rfl, ⟨by decide, by decide, by decide, by decide, by decide⟩, ?_⟩
  exact ⟨rfl, rfl⟩
theorem ac_becJ1 : ACe g mX3_become [.ref 1, .ref 88] (lay (S, O)) none (lay (bec (o_I O 1) S, O)) := by
  refine acw gdX3_become 80 rfl ?_
  refine ⟨_, _, _, _, rfl, rfl, ⟨by decide, by decide, by decide, by decide, by decide⟩, ?_⟩
  refine ⟨_, _, _, _, rfl, rfl, ⟨by decide, by decide, by decide, by decide, by decide⟩, ?_⟩
  refine ⟨_, _, _, _, rfl, rfl, ⟨by decide, by decide, by decide, by decide, by decide⟩, ?_⟩
  refine ⟨_, _, _, _, rfl, rfl, ⟨by decide, by decide, by decide, by decide, by decide⟩, ?_⟩
  exact ⟨rfl, rfl⟩
theorem ac_becD : ACe g mX3_become [.ref 1, .ref 6] (lay (S, O)) none (lay (bec (o_D O) S, O)) := by
  refine acw gdX3_become 80 rfl ?_
  refine ⟨_, _, _, _, rfl, rfl, ⟨by decide, by decide, by decide, by decide, by decide⟩, ?_⟩
  refine ⟨_, _, _, _, rfl, rfl, ⟨by decide, by decide, by decide, by decide, by decide⟩, ?_⟩
  refine ⟨_, _, _, _, rfl, rfl, ⟨by decide, by decide, by decide, by decide, by decide⟩, ?_⟩
  refine ⟨_, _, _, _, rfl, rfl, ⟨by decide, by decide, by decide, by decide, by decide⟩, ?_⟩
  exact ⟨rfl, rfl⟩
end CP
end
section
theorem bEl_t {b : Bool} {P Q : Prop} (h : b = true) (p : P) : bEl b P Q := by rw [h]; exact p
theorem hat_lt {h : AH} {k : Nat} {e : va_E} (hk : hat h k = some e) : Nat.blt k 1000 = true := by
  cases hb : Nat.blt k 1000 with
  | true => rfl
  | false => unfold hat at hk; rw [hb] at hk; cases hk
theorem hat_ne {h : AH} {k j : Nat} {c : va_E} (hkj : j ≠ k) : hat (h.set k c) j = hat h j := by
  unfold hat
  rw [List.getElem?_set_ne (Ne.symm hkj)]
theorem hat_eq {h : AH} {k : Nat} {c e : va_E} (hk : hat h k = some e) : hat (h.set k c) k = some c := by
  have h1 := hat_lt hk
  obtain ⟨-, h2⟩ := hat_some hk
  unfold hat
  rw [h1]
  exact List.getElem?_set_self (List.getElem?_eq_some_iff.mp h2).1
theorem hat_same {h : AH} {k : Nat} {e : va_E} (hk : hat h k = some e) : h.set k e = h := by
  obtain ⟨-, h2⟩ := hat_some hk
  apply List.ext_getElem?
  intro j
  by_cases hj : k = j
  · subst hj
    rw [List.getElem?_set_self (List.getElem?_eq_some_iff.mp h2).1, h2]
  · rw [List.getElem?_set_ne hj]
theorem am_bring {g : Glob} {h : AH} {k0 k1 n0 n1 i j : Nat} {f t : Fn} (h0 : hat h k0 = some (ia n0 f)) (h1 : hat h k1 = some (ia n1 t)) (hne : k0 ≠ k1) (hi : i + 64 ≤ n0) (hj : j + 64 ≤ n1) (b0 : n0 ≤ 1000) (b1 : n1 ≤ 1000) : ACe g mX6_bring [.ref k0, .int (nI i), .ref k1, .int (nI j)] h none (h.set k1 (ia n1 (va_cpy f t i j 64))) := by
  refine acw gdX6_bring 40 rfl ?_
  have e0 : h = h.set k1 (ia n1 (va_cpy f t i j 0)) := by rw [cpy_0]; exact (hat_same h1).symm
  have key := dn (n := 64) (P := fun k => AW g mX6_bring (fun r h' => r = none ∧ h' = h.set k1 (ia n1 (va_cpy f t i j 64))) 0 0 3 [some (.ref k0), some (.int (nI i)), some (.ref k1), some (.int (nI j)), some (.int (nI k))] [] (h.set k1 (ia n1 (va_cpy f t i j k)))) ?_ (fun k hk ih => ?_) 0 (Nat.zero_le _)
  · rw [← e0] at key
    exact key
  · exact lpw gdX6_bring 40 ⟨fun _ => ⟨rfl, rfl⟩, fun h => absurd (nle (n := 64) (by omega) (by omega)) h⟩
  · have e1 : nI j + nI k = nI (j + k) := nI_add j k
    have e2 : nI i + nI k = nI (i + k) := nI_add i k
    refine lpw gdX6_bring 40 ⟨fun h => absurd h (nge (n := 64) hk (by omega)), fun _ => ?_⟩
    refine bEl_t (hat_lt h0) ⟨n0, f, (hat_ne hne).trans h0, vin e2 (by omega) (by omega), ?_⟩
    refine ⟨n1, _, hat_eq h1, vin e1 (by omega) (by omega), ?_⟩
    rw [vcl e1 (by omega), vcl e2 (by omega), cpy_step, List.set_set]
    exact awl (by rw [← nI_1]; rfl) ih
section CQ
variable {g : Glob} {S : Scn} {O : Oth}
set_option maxRecDepth 10000 in
theorem L95 {f : Fn} : (lay (S, O)).set 95 (ia 64 f) = lay (S, o_M' O (z_now' (o_M O) f)) := by rfl
set_option maxRecDepth 10000 in
theorem L97 {f : Fn} : (lay (S, O)).set 97 (ia 512 f) = lay (S, o_M' O (z_past' (o_M O) f)) := by rfl
set_option maxRecDepth 10000 in
theorem L98 {f : Fn} : (lay (S, O)).set 98 (ia 128 f) = lay (S, o_M' O (z_img' (o_M O) f)) := by rfl
theorem H95 : hat (lay (S, O)) 95 = some (ia 64 (z_now (o_M O))) := rfl
theorem H96 : hat (lay (S, O)) 96 = some (ia 64 (z_rd (o_M O))) := rfl
theorem H97 : hat (lay (S, O)) 97 = some (ia 512 (z_past (o_M O))) := rfl
theorem H98 : hat (lay (S, O)) 98 = some (ia 128 (z_img (o_M O))) := rfl
theorem am_bringRN : ACe g mX6_bring [.ref 96, .int 0, .ref 95, .int 0] (lay (S, O)) none (lay (S, o_M' O (z_now' (o_M O) (va_cpy (z_rd (o_M O)) (z_now (o_M O)) 0 0 64)))) := by
  rw [← L95]
  exact am_bring H96 H95 (by decide) (i := 0) (j := 0) (by decide) (by decide) (by decide) (by decide)
theorem am_bringNP {j : Nat} (hj : j + 64 ≤ 512) : ACe g mX6_bring [.ref 95, .int 0, .ref 97, .int (nI j)] (lay (S, O)) none (lay (S, o_M' O (z_past' (o_M O) (va_cpy (z_now (o_M O)) (z_past (o_M O)) 0 j 64)))) := by
  rw [← L97]
  exact am_bring H95 H97 (by decide) (i := 0) (by decide) hj (by decide) (by decide)
theorem am_bringPN {i : Nat} (hi : i + 64 ≤ 512) : ACe g mX6_bring [.ref 97, .int (nI i), .ref 95, .int 0] (lay (S, O)) none (lay (S, o_M' O (z_now' (o_M O) (va_cpy (z_past (o_M O)) (z_now (o_M O)) i 0 64)))) := by
  rw [← L95]
  exact am_bring H97 H95 (by decide) (j := 0) hi (by decide) (by decide) (by decide)
theorem am_bringNI {j : Nat} (hj : j + 64 ≤ 128) : ACe g mX6_bring [.ref 95, .int 0, .ref 98, .int (nI j)] (lay (S, O)) none (lay (S, o_M' O (z_img' (o_M O) (va_cpy (z_now (o_M O)) (z_img (o_M O)) 0 j 64)))) := by
  rw [← L98]
  exact am_bring H95 H98 (by decide) (i := 0) (by decide) hj (by decide) (by decide)
theorem am_bringIN {i : Nat} (hi : i + 64 ≤ 128) : ACe g mX6_bring [.ref 98, .int (nI i), .ref 95, .int 0] (lay (S, O)) none (lay (S, o_M' O (z_now' (o_M O) (va_cpy (z_img (o_M O)) (z_now (o_M O)) i 0 64)))) := by
  rw [← L95]
  exact am_bring H98 H95 (by decide) (j := 0) hi (by decide) (by decide) (by decide)
end CQ
end
section
section NT
variable {g : Glob} {S : Scn} {O : Oth}
theorem am_note_J {e : Nat} (he : z_deeds (o_M O) = nI e) (h8 : e < 8) : AW g mX6_note (fun r h' => r = none ∧ h' = lay (S, o_M' O (z_deeds' (z_past' (o_M O) (va_cpy (z_now (o_M O)) (z_past (o_M O)) 0 (64 * e) 64)) (nI (e + 1))))) 0 0 49 [some (.ref 94), none] [] (lay (S, O)) := by
  have hB := am_bringNP (g := g) (S := S) (O := O) (j := 64 * e) (by omega)
  generalize va_cpy (z_now (o_M O)) (z_past (o_M O)) 0 (64 * e) 64 = G at hB ⊢
  have e1 : 64 * z_deeds (o_M O) = nI (64 * e) := by rw [he, nlit, pk_mul]
  refine lpw gdX6_note 40 ?_
  refine ac_ar (by show [Value.ref 95, Value.int 0, Value.ref 97, Value.int (64 * z_deeds (o_M O))] = _; rw [e1]) (ac_to hB ?_)
  refine ⟨rfl, ?_⟩
  show List.set (lay _) 94 (.inr (6, [_, _, _, .int (z_deeds (o_M O) + 1), _, _, _, _, _, _, _, _, _, _, _, _, _, _, _, _, _, _, _])) = _
  rw [he, nI_1]
  rfl
theorem am_note7 {d : Nat} (hd : z_deeds (o_M O) = nI d) (h8 : d < 8) : ACe g mX6_note [.ref 94] (lay (S, O)) none (lay (S, o_M' O (z_deeds' (z_past' (o_M O) (va_cpy (z_now (o_M O)) (z_past (o_M O)) 0 (64 * d) 64)) (nI (d + 1))))) := by
  have hJ := am_note_J (g := g) (S := S) hd h8
  refine acw gdX6_note 40 rfl ⟨fun _ => hJ, fun h => ?_⟩
  exact absurd ((neqI (b := 8) (by omega) (by omega)).mp (hd.symm.trans h)) (by omega)
set_option maxRecDepth 10000 in
theorem L97d {f : Fn} {x : Int32} : (lay (S, o_M' O (z_past' (o_M O) f))).set 94 (.inr (6, [.ref 95, .ref 96, .ref 97, .int x, .ref 98, .ref 99, .ref 100, .int (z_let (o_M O)), .int (z_at (o_M O)), .int (z_tok (o_M O)), .int (z_tat (o_M O)), .ref 101, .ref 102, .int (z_seen (o_M O)), .int (z_aP (o_M O)), .int (z_aL (o_M O)), .int (z_items (o_M O)), .ref 103, .ref 104, .int (z_wc (o_M O)), .ref 105, .int (z_bc (o_M O)), .int (z_bs (o_M O))])) = lay (S, o_M' O (z_deeds' (z_past' (o_M O) f) x)) := by rfl
theorem oO_t {h : AH} {k a : Nat} {fs : List Value} {F : List Value → Prop} (hk : hat h k = some (.inr (a, fs))) (p : F fs) : oO h k a F := by
  unfold oO
  rw [hk]
  dsimp only
  rw [show Nat.beq a a = true from Nat.beq_refl a]
  exact p
theorem oV_t {o : Option Value} {v : Value} {F : Value → Prop} (h : o = some v) (p : F v) : oV o F := by rw [h]; exact p
theorem am_note_L {h : AH} {p : Fn} {fs : List Value} {Post : Option Value → AH → Prop} (h94 : hat h 94 = some (.inr (6, fs))) (hf : fs[2]? = some (.ref 97)) (h97 : hat h 97 = some (ia 512 p)) (K : AW g mX6_note Post 0 0 11 [some (.ref 94), some (.int (nI 448))] [] (h.set 97 (ia 512 (va_cpy p p 64 0 448)))) : AW g mX6_note Post 0 0 11 [some (.ref 94), some (.int (nI 0))] [] h := by
  have e0 : h = h.set 97 (ia 512 (va_cpy p p 64 0 0)) := by rw [cpy_0]; exact (hat_same h97).symm
  have key := dn (n := 448) (P := fun k => AW g mX6_note Post 0 0 11 [some (.ref 94), some (.int (nI k))] [] (h.set 97 (ia 512 (va_cpy p p 64 0 k)))) K (fun k hk ih => ?_) 0 (Nat.zero_le _)
  · rw [← e0] at key
    exact key
  · have e2 : nI k + 64 = nI (k + 64) := by simp only [nlit, nI_add]
    have g94 : hat (h.set 97 (ia 512 (va_cpy p p 64 0 k))) 94 = some (.inr (6, fs)) := (hat_ne (by decide)).trans h94
    have g97 : hat (h.set 97 (ia 512 (va_cpy p p 64 0 k))) 97 = some (ia 512 (va_cpy p p 64 0 k)) := hat_eq h97
    have e3 : upd (va_cpy p p 64 0 k) k (va_cpy p p 64 0 k (k + 64)) = va_cpy p p 64 0 (k + 1) := by
      rw [← cpy_step (f := p) (t := p) (i := 64) (j := 0) (k := k), Nat.zero_add]
      congr 1
      rw [pk_cpy_out (by omega), Nat.add_comm]
    refine lpw gdX6_note 40 ⟨fun h => absurd h (nge (n := 448) hk (by omega)), fun _ => ?_⟩
    refine oO_t g94 (oV_t hf ?_)
    refine oO_t g94 (oV_t hf ?_)
    refine ⟨512, _, g97, vin e2 (by omega) (by decide), ?_⟩
    refine ⟨512, _, g97, vlit (by omega) (by decide), ?_⟩
    rw [vcl e2 (by omega), vcl (x := nI k) rfl (by omega), List.set_set, e3]
    exact awl (by rw [← nI_1]; rfl) ih
theorem am_note8 (hd : z_deeds (o_M O) = nI 8) : ACe g mX6_note [.ref 94] (lay (S, O)) none (lay (S, o_M' O (z_deeds' (z_past' (o_M O) (va_cpy (z_now (o_M O)) (va_cpy (z_past (o_M O)) (z_past (o_M O)) 64 0 448) 0 448 64)) (nI 8)))) := by
  refine acw gdX6_note 40 rfl ⟨fun h => absurd hd h, fun _ => ?_⟩
  refine am_note_L (p := z_past (o_M O)) rfl rfl rfl ?_
  rw [L97]
  generalize va_cpy (z_past (o_M O)) (z_past (o_M O)) 64 0 448 = F
  have hJ := am_note_J (g := g) (S := S) (O := o_M' O (z_deeds' (z_past' (o_M O) F) (nI 7))) (e := 7) rfl (by decide)
  have e7 : z_deeds (o_M O) - 1 = nI 7 := by rw [hd]; rfl
  refine lpw gdX6_note 40 ⟨fun _ => ?_, fun h => absurd (nle (n := 448) (by omega) (by omega)) h⟩
  refine awf (ls' := [some (.ref 94), none]) ⟨rfl, trivial⟩ ?_
  refine (congrArg (fun z => AW g mX6_note _ 0 0 49 _ [] z) (L97d (S := S) (O := O) (f := F) (x := z_deeds (o_M O) - 1))).mpr ?_
  rw [e7]
  exact hJ
end NT
end
section
section RM
variable {g : Glob} {S : Scn} {O : Oth}
theorem ac_rem0 {d : Nat} (h8 : d ≤ 8) (hx : o_nx O = nI 0) (hd : o_kn O = nI d) : ACe g mX0_remember [.ref 11, .ref 1] (lay (S, O)) none (lay (S, o_nx' (o_kn' (o_P' O (putP (o_P O) 0 (bec S (o_P O 0)))) (nI (min (d + 1) 8))) (nI 1))) := by
  have hB := ac_becP0 (g := g) (S := S) (O := O)
  generalize putP (o_P O) 0 (bec S (o_P O 0)) = PP at hB ⊢
  have ek : (if (8 : Int32) < o_kn O + 1 then (8 : Int32) else o_kn O + 1) = nI (min (d + 1) 8) := by
    rw [hd, nI_1]
    by_cases h : d = 8
    · subst h; decide
    · rw [if_neg (fun z => by have := (nltI (a := 8) (b := d + 1) (by omega) (by omega)).mp z; omega), Nat.min_eq_left (by omega)]
  have en : o_nx O + 1 = nI 1 := by first | rfl | (rw [hx]; rfl)
  refine acw gdX0_remember 60 rfl ⟨2, 8, _, 13, Or.inl rfl, rfl, vin hx (by decide) (by decide), ?_, ?_⟩
  · show (fun i => if i < 8 then some (13 + 5 * i) else none) (o_nx O).toNatClampNeg = _
    rw [vcl hx (by decide)]
    rfl
  refine ac_to hB ⟨fun _ => ?_, fun h => absurd (hx.symm.trans h) (by decide)⟩
  refine ⟨rfl, ?_⟩
  show List.set (List.set (lay (S, o_P' O PP)) 11 (.inr (0, [.ref 12, .int (o_kn O), .int (o_nx O + 1)]))) 11 (.inr (0, [.ref 12, .int (if (8 : Int32) < o_kn O + 1 then (8 : Int32) else o_kn O + 1), .int (o_nx O + 1)])) = _
  rw [ek, en]
  rfl
theorem ac_rem1 {d : Nat} (h8 : d ≤ 8) (hx : o_nx O = nI 1) (hd : o_kn O = nI d) : ACe g mX0_remember [.ref 11, .ref 1] (lay (S, O)) none (lay (S, o_nx' (o_kn' (o_P' O (putP (o_P O) 1 (bec S (o_P O 1)))) (nI (min (d + 1) 8))) (nI 2))) := by
  have hB := ac_becP1 (g := g) (S := S) (O := O)
  generalize putP (o_P O) 1 (bec S (o_P O 1)) = PP at hB ⊢
  have ek : (if (8 : Int32) < o_kn O + 1 then (8 : Int32) else o_kn O + 1) = nI (min (d + 1) 8) := by
    rw [hd, nI_1]
    by_cases h : d = 8
    · subst h; decide
    · rw [if_neg (fun z => by have := (nltI (a := 8) (b := d + 1) (by omega) (by omega)).mp z; omega), Nat.min_eq_left (by omega)]
  have en : o_nx O + 1 = nI 2 := by first | rfl | (rw [hx]; rfl)
  refine acw gdX0_remember 60 rfl ⟨2, 8, _, 18, Or.inl rfl, rfl, vin hx (by decide) (by decide), ?_, ?_⟩
  · show (fun i => if i < 8 then some (13 + 5 * i) else none) (o_nx O).toNatClampNeg = _
    rw [vcl hx (by decide)]
    rfl
  refine ac_to hB ⟨fun _ => ?_, fun h => absurd (hx.symm.trans h) (by decide)⟩
  refine ⟨rfl, ?_⟩
  show List.set (List.set (lay (S, o_P' O PP)) 11 (.inr (0, [.ref 12, .int (o_kn O), .int (o_nx O + 1)]))) 11 (.inr (0, [.ref 12, .int (if (8 : Int32) < o_kn O + 1 then (8 : Int32) else o_kn O + 1), .int (o_nx O + 1)])) = _
  rw [ek, en]
  rfl
theorem ac_rem2 {d : Nat} (h8 : d ≤ 8) (hx : o_nx O = nI 2) (hd : o_kn O = nI d) : ACe g mX0_remember [.ref 11, .ref 1] (lay (S, O)) none (lay (S, o_nx' (o_kn' (o_P' O (putP (o_P O) 2 (bec S (o_P O 2)))) (nI (min (d + 1) 8))) (nI 3))) := by
  have hB := ac_becP2 (g := g) (S := S) (O := O)
  generalize putP (o_P O) 2 (bec S (o_P O 2)) = PP at hB ⊢
  have ek : (if (8 : Int32) < o_kn O + 1 then (8 : Int32) else o_kn O + 1) = nI (min (d + 1) 8) := by
    rw [hd, nI_1]
    by_cases h : d = 8
    · subst h; decide
    · rw [if_neg (fun z => by have := (nltI (a := 8) (b := d + 1) (by omega) (by omega)).mp z; omega), Nat.min_eq_left (by omega)]
  have en : o_nx O + 1 = nI 3 := by first | rfl | (rw [hx]; rfl)
  refine acw gdX0_remember 60 rfl ⟨2, 8, _, 23, Or.inl rfl, rfl, vin hx (by decide) (by decide), ?_, ?_⟩
  · show (fun i => if i < 8 then some (13 + 5 * i) else none) (o_nx O).toNatClampNeg = _
    rw [vcl hx (by decide)]
    rfl
  refine ac_to hB ⟨fun _ => ?_, fun h => absurd (hx.symm.trans h) (by decide)⟩
  refine ⟨rfl, ?_⟩
  show List.set (List.set (lay (S, o_P' O PP)) 11 (.inr (0, [.ref 12, .int (o_kn O), .int (o_nx O + 1)]))) 11 (.inr (0, [.ref 12, .int (if (8 : Int32) < o_kn O + 1 then (8 : Int32) else o_kn O + 1), .int (o_nx O + 1)])) = _
  rw [ek, en]
  rfl
theorem ac_rem3 {d : Nat} (h8 : d ≤ 8) (hx : o_nx O = nI 3) (hd : o_kn O = nI d) : ACe g mX0_remember [.ref 11, .ref 1] (lay (S, O)) none (lay (S, o_nx' (o_kn' (o_P' O (putP (o_P O) 3 (bec S (o_P O 3)))) (nI (min (d + 1) 8))) (nI 4))) := by
  have hB := ac_becP3 (g := g) (S := S) (O := O)
  generalize putP (o_P O) 3 (bec S (o_P O 3)) = PP at hB ⊢
  have ek : (if (8 : Int32) < o_kn O + 1 then (8 : Int32) else o_kn O + 1) = nI (min (d + 1) 8) := by
    rw [hd, nI_1]
    by_cases h : d = 8
    · subst h; decide
    · rw [if_neg (fun z => by have := (nltI (a := 8) (b := d + 1) (by omega) (by omega)).mp z; omega), Nat.min_eq_left (by omega)]
  have en : o_nx O + 1 = nI 4 := by first | rfl | (rw [hx]; rfl)
  refine acw gdX0_remember 60 rfl ⟨2, 8, _, 28, Or.inl rfl, rfl, vin hx (by decide) (by decide), ?_, ?_⟩
  · show (fun i => if i < 8 then some (13 + 5 * i) else none) (o_nx O).toNatClampNeg = _
    rw [vcl hx (by decide)]
    rfl
  refine ac_to hB ⟨fun _ => ?_, fun h => absurd (hx.symm.trans h) (by decide)⟩
  refine ⟨rfl, ?_⟩
  show List.set (List.set (lay (S, o_P' O PP)) 11 (.inr (0, [.ref 12, .int (o_kn O), .int (o_nx O + 1)]))) 11 (.inr (0, [.ref 12, .int (if (8 : Int32) < o_kn O + 1 then (8 : Int32) else o_kn O + 1), .int (o_nx O + 1)])) = _
  rw [ek, en]
  rfl
theorem ac_rem4 {d : Nat} (h8 : d ≤ 8) (hx : o_nx O = nI 4) (hd : o_kn O = nI d) : ACe g mX0_remember [.ref 11, .ref 1] (lay (S, O)) none (lay (S, o_nx' (o_kn' (o_P' O (putP (o_P O) 4 (bec S (o_P O 4)))) (nI (min (d + 1) 8))) (nI 5))) := by
  have hB := ac_becP4 (g := g) (S := S) (O := O)
  generalize putP (o_P O) 4 (bec S (o_P O 4)) = PP at hB ⊢
  have ek : (if (8 : Int32) < o_kn O + 1 then (8 : Int32) else o_kn O + 1) = nI (min (d + 1) 8) := by
    rw [hd, nI_1]
    by_cases h : d = 8
    · subst h; decide
    · rw [if_neg (fun z => by have := (nltI (a := 8) (b := d + 1) (by omega) (by omega)).mp z; omega), Nat.min_eq_left (by omega)]
  have en : o_nx O + 1 = nI 5 := by first | rfl | (rw [hx]; rfl)
  refine acw gdX0_remember 60 rfl ⟨2, 8, _, 33, Or.inl rfl, rfl, vin hx (by decide) (by decide), ?_, ?_⟩
  · show (fun i => if i < 8 then some (13 + 5 * i) else none) (o_nx O).toNatClampNeg = _
    rw [vcl hx (by decide)]
    rfl
  refine ac_to hB ⟨fun _ => ?_, fun h => absurd (hx.symm.trans h) (by decide)⟩
  refine ⟨rfl, ?_⟩
  show List.set (List.set (lay (S, o_P' O PP)) 11 (.inr (0, [.ref 12, .int (o_kn O), .int (o_nx O + 1)]))) 11 (.inr (0, [.ref 12, .int (if (8 : Int32) < o_kn O + 1 then (8 : Int32) else o_kn O + 1), .int (o_nx O + 1)])) = _
  rw [ek, en]
  rfl
theorem ac_rem5 {d : Nat} (h8 : d ≤ 8) (hx : o_nx O = nI 5) (hd : o_kn O = nI d) : ACe g mX0_remember [.ref 11, .ref 1] (lay (S, O)) none (lay (S, o_nx' (o_kn' (o_P' O (putP (o_P O) 5 (bec S (o_P O 5)))) (nI (min (d + 1) 8))) (nI 6))) := by
  have hB := ac_becP5 (g := g) (S := S) (O := O)
  generalize putP (o_P O) 5 (bec S (o_P O 5)) = PP at hB ⊢
  have ek : (if (8 : Int32) < o_kn O + 1 then (8 : Int32) else o_kn O + 1) = nI (min (d + 1) 8) := by
    rw [hd, nI_1]
    by_cases h : d = 8
    · subst h; decide
    · rw [if_neg (fun z => by have := (nltI (a := 8) (b := d + 1) (by omega) (by omega)).mp z; omega), Nat.min_eq_left (by omega)]
  have en : o_nx O + 1 = nI 6 := by first | rfl | (rw [hx]; rfl)
  refine acw gdX0_remember 60 rfl ⟨2, 8, _, 38, Or.inl rfl, rfl, vin hx (by decide) (by decide), ?_, ?_⟩
  · show (fun i => if i < 8 then some (13 + 5 * i) else none) (o_nx O).toNatClampNeg = _
    rw [vcl hx (by decide)]
    rfl
  refine ac_to hB ⟨fun _ => ?_, fun h => absurd (hx.symm.trans h) (by decide)⟩
  refine ⟨rfl, ?_⟩
  show List.set (List.set (lay (S, o_P' O PP)) 11 (.inr (0, [.ref 12, .int (o_kn O), .int (o_nx O + 1)]))) 11 (.inr (0, [.ref 12, .int (if (8 : Int32) < o_kn O + 1 then (8 : Int32) else o_kn O + 1), .int (o_nx O + 1)])) = _
  rw [ek, en]
  rfl
theorem ac_rem6 {d : Nat} (h8 : d ≤ 8) (hx : o_nx O = nI 6) (hd : o_kn O = nI d) : ACe g mX0_remember [.ref 11, .ref 1] (lay (S, O)) none (lay (S, o_nx' (o_kn' (o_P' O (putP (o_P O) 6 (bec S (o_P O 6)))) (nI (min (d + 1) 8))) (nI 7))) := by
  have hB := ac_becP6 (g := g) (S := S) (O := O)
  generalize putP (o_P O) 6 (bec S (o_P O 6)) = PP at hB ⊢
  have ek : (if (8 : Int32) < o_kn O + 1 then (8 : Int32) else o_kn O + 1) = nI (min (d + 1) 8) := by
    rw [hd, nI_1]
    by_cases h : d = 8
    · subst h; decide
    · rw [if_neg (fun z => by have := (nltI (a := 8) (b := d + 1) (by omega) (by omega)).mp z; omega), Nat.min_eq_left (by omega)]
  have en : o_nx O + 1 = nI 7 := by first | rfl | (rw [hx]; rfl)
  refine acw gdX0_remember 60 rfl ⟨2, 8, _, 43, Or.inl rfl, rfl, vin hx (by decide) (by decide), ?_, ?_⟩
  · show (fun i => if i < 8 then some (13 + 5 * i) else none) (o_nx O).toNatClampNeg = _
    rw [vcl hx (by decide)]
    rfl
  refine ac_to hB ⟨fun _ => ?_, fun h => absurd (hx.symm.trans h) (by decide)⟩
  refine ⟨rfl, ?_⟩
  show List.set (List.set (lay (S, o_P' O PP)) 11 (.inr (0, [.ref 12, .int (o_kn O), .int (o_nx O + 1)]))) 11 (.inr (0, [.ref 12, .int (if (8 : Int32) < o_kn O + 1 then (8 : Int32) else o_kn O + 1), .int (o_nx O + 1)])) = _
  rw [ek, en]
  rfl
theorem ac_rem7 {d : Nat} (h8 : d ≤ 8) (hx : o_nx O = nI 7) (hd : o_kn O = nI d) : ACe g mX0_remember [.ref 11, .ref 1] (lay (S, O)) none (lay (S, o_nx' (o_kn' (o_P' O (putP (o_P O) 7 (bec S (o_P O 7)))) (nI (min (d + 1) 8))) (nI 0))) := by
  have hB := ac_becP7 (g := g) (S := S) (O := O)
  generalize putP (o_P O) 7 (bec S (o_P O 7)) = PP at hB ⊢
  have ek : (if (8 : Int32) < o_kn O + 1 then (8 : Int32) else o_kn O + 1) = nI (min (d + 1) 8) := by
    rw [hd, nI_1]
    by_cases h : d = 8
    · subst h; decide
    · rw [if_neg (fun z => by have := (nltI (a := 8) (b := d + 1) (by omega) (by omega)).mp z; omega), Nat.min_eq_left (by omega)]
  have en : 0 = nI 0 := by first | rfl | (rw [hx]; rfl)
  refine acw gdX0_remember 60 rfl ⟨2, 8, _, 48, Or.inl rfl, rfl, vin hx (by decide) (by decide), ?_, ?_⟩
  · show (fun i => if i < 8 then some (13 + 5 * i) else none) (o_nx O).toNatClampNeg = _
    rw [vcl hx (by decide)]
    rfl
  refine ac_to hB ⟨fun h => absurd hx h, fun _ => ?_⟩
  refine ⟨rfl, ?_⟩
  show List.set (List.set (lay (S, o_P' O PP)) 11 (.inr (0, [.ref 12, .int (o_kn O), .int (0)]))) 11 (.inr (0, [.ref 12, .int (if (8 : Int32) < o_kn O + 1 then (8 : Int32) else o_kn O + 1), .int (0)])) = _
  rw [ek, en]
  rfl
theorem ac_remember {d x : Nat} (h8 : d ≤ 8) (hx8 : x < 8) (hx : o_nx O = nI x) (hd : o_kn O = nI d) : ACe g mX0_remember [.ref 11, .ref 1] (lay (S, O)) none (lay (S, o_nx' (o_kn' (o_P' O (putP (o_P O) x (bec S (o_P O x)))) (nI (min (d + 1) 8))) (nI ((x + 1) % 8)))) := by
  rcases (show x = 0 ∨ x = 1 ∨ x = 2 ∨ x = 3 ∨ x = 4 ∨ x = 5 ∨ x = 6 ∨ x = 7 by omega) with rfl | rfl | rfl | rfl | rfl | rfl | rfl | rfl
  · exact ac_rem0 h8 hx hd
  · exact ac_rem1 h8 hx hd
  · exact ac_rem2 h8 hx hd
  · exact ac_rem3 h8 hx hd
  · exact ac_rem4 h8 hx hd
  · exact ac_rem5 h8 hx hd
  · exact ac_rem6 h8 hx hd
  · exact ac_rem7 h8 hx hd
end RM
end
section
section RS
variable {g : Glob} {S : Scn} {O : Oth}
def nG (now past : Fn) (d : Nat) : Fn := if d < 8 then va_cpy now past 0 (64 * d) 64 else va_cpy now (va_cpy past past 64 0 448) 0 448 64
theorem ac_hp {M : Mth} {args : List Value} {h h' : AH} {Q : Option Value → AH → Prop} (e : h = h') (K : AC g M args h' Q) : AC g M args h Q := e ▸ K
theorem am_note {d : Nat} (h8 : d ≤ 8) (hd : z_deeds (o_M O) = nI d) : ACe g mX6_note [.ref 94] (lay (S, O)) none (lay (S, o_M' O (z_deeds' (z_past' (o_M O) (nG (z_now (o_M O)) (z_past (o_M O)) d)) (nI (min (d + 1) 8))))) := by
  by_cases h : d < 8
  · have e1 : nG (z_now (o_M O)) (z_past (o_M O)) d = va_cpy (z_now (o_M O)) (z_past (o_M O)) 0 (64 * d) 64 := if_pos h
    rw [e1, Nat.min_eq_left (by omega)]
    exact am_note7 hd h
  · obtain rfl : d = 8 := by omega
    have e1 : nG (z_now (o_M O)) (z_past (o_M O)) 8 = va_cpy (z_now (o_M O)) (va_cpy (z_past (o_M O)) (z_past (o_M O)) 64 0 448) 0 448 64 := if_neg h
    rw [e1]
    exact am_note8 hd
theorem past_step {d x : Nat} (h8 : d ≤ 8) (hx : x < 8) (hP : ∀ j, j < d → Rw (o_P O ((x + 8 - d + j) % 8)) (row (z_past (o_M O)) j)) (hR : Rw S (z_now (o_M O))) {O' : Oth} (e1 : o_P O' = putP (o_P O) x (bec S (o_P O x))) (e2 : o_kn O' = nI (min (d + 1) 8)) (e3 : o_nx O' = nI ((x + 1) % 8)) (e4 : z_past (o_M O') = nG (z_now (o_M O)) (z_past (o_M O)) d) (e5 : z_deeds (o_M O') = nI (min (d + 1) 8)) : iPast O' := by
  refine ⟨min (d + 1) 8, (x + 1) % 8, by omega, by omega, e2, e5, e3, fun j hj => ?_⟩
  rw [e1, e4]
  by_cases h : d < 8
  · have en : nG (z_now (o_M O)) (z_past (o_M O)) d = va_cpy (z_now (o_M O)) (z_past (o_M O)) 0 (64 * d) 64 := if_pos h
    rw [en]
    by_cases hjd : j = d
    · have ei : ((x + 1) % 8 + 8 - min (d + 1) 8 + j) % 8 = x := by omega
      rw [ei]
      have ep : putP (o_P O) x (bec S (o_P O x)) x = bec S (o_P O x) := if_pos rfl
      rw [ep]
      refine hR.bec.cg (fun i hi => ?_)
      unfold row
      rw [pk_cpy_in (by omega) (by omega)]
      exact congrArg _ (by omega)
    · have ei : ((x + 1) % 8 + 8 - min (d + 1) 8 + j) % 8 = (x + 8 - d + j) % 8 := by omega
      rw [ei]
      have ep : putP (o_P O) x (bec S (o_P O x)) ((x + 8 - d + j) % 8) = o_P O ((x + 8 - d + j) % 8) := if_neg (by omega)
      rw [ep]
      refine (hP j (by omega)).cg (fun i hi => ?_)
      unfold row
      rw [pk_cpy_out (by omega)]
  · obtain rfl : d = 8 := by omega
    have en : nG (z_now (o_M O)) (z_past (o_M O)) 8 = va_cpy (z_now (o_M O)) (va_cpy (z_past (o_M O)) (z_past (o_M O)) 64 0 448) 0 448 64 := if_neg h
    rw [en]
    by_cases hjd : j = 7
    · subst hjd
      have ei : ((x + 1) % 8 + 8 - min (8 + 1) 8 + 7) % 8 = x := by omega
      rw [ei]
      have ep : putP (o_P O) x (bec S (o_P O x)) x = bec S (o_P O x) := if_pos rfl
      rw [ep]
      refine hR.bec.cg (fun i hi => ?_)
      unfold row
      rw [pk_cpy_in (by omega) (by omega)]
      exact congrArg _ (by omega)
    · have ei : ((x + 1) % 8 + 8 - min (8 + 1) 8 + j) % 8 = (x + 8 - 8 + (j + 1)) % 8 := by omega
      rw [ei]
      have ep : putP (o_P O) x (bec S (o_P O x)) ((x + 8 - 8 + (j + 1)) % 8) = o_P O ((x + 8 - 8 + (j + 1)) % 8) := if_neg (by omega)
      rw [ep]
      refine (hP (j + 1) (by omega)).cg (fun i hi => ?_)
      unfold row
      rw [pk_cpy_out (by omega), pk_cpy_in (by omega) (by omega)]
      exact congrArg _ (by omega)
theorem ac_res0 {d : Nat} (h8 : d + 1 ≤ 8) (hx : o_nx O = nI 1) (hd : o_kn O = nI (d + 1)) : ACe g mX0_restore [.ref 11, .ref 1] (lay (S, O)) (some (.int 1)) (lay (bec (o_P O 0) S, o_kn' (o_nx' O (nI 0)) (nI d))) := by
  have ek : o_kn O - 1 = nI d := by rw [hd]; exact nI_pred d
  have en : o_nx O - 1 = nI 0 := by first | rfl | (rw [hx]; rfl)
  have hB := ac_becQ0 (g := g) (S := S) (O := o_kn' (o_nx' O (nI 0)) (nI d))
  refine acw gdX0_restore 60 rfl ⟨fun _ => ⟨fun _ => ?_, fun h => absurd (hx.symm.trans h) (by decide)⟩, fun h => absurd (hd.symm.trans h) (fun z => by have := (neqI (a := d + 1) (b := 0) (by omega) (by omega)).mp z; omega)⟩
  refine ⟨2, 8, _, 13, Or.inl rfl, rfl, vin en (by decide) (by decide), ?_, ?_⟩
  · show (fun i => if i < 8 then some (13 + 5 * i) else none) (o_nx O - 1 : Int32).toNatClampNeg = _
    rw [vcl en (by decide)]
    rfl
  refine ac_hp ?_ (ac_to hB ⟨rfl, rfl, rfl⟩)
  show List.set (List.set (lay (S, O)) 11 (.inr (0, [.ref 12, .int (o_kn O), .int (o_nx O - 1)]))) 11 (.inr (0, [.ref 12, .int (o_kn O - 1), .int (o_nx O - 1)])) = _
  rw [ek, en]
  rfl
theorem ac_res1 {d : Nat} (h8 : d + 1 ≤ 8) (hx : o_nx O = nI 2) (hd : o_kn O = nI (d + 1)) : ACe g mX0_restore [.ref 11, .ref 1] (lay (S, O)) (some (.int 1)) (lay (bec (o_P O 1) S, o_kn' (o_nx' O (nI 1)) (nI d))) := by
  have ek : o_kn O - 1 = nI d := by rw [hd]; exact nI_pred d
  have en : o_nx O - 1 = nI 1 := by first | rfl | (rw [hx]; rfl)
  have hB := ac_becQ1 (g := g) (S := S) (O := o_kn' (o_nx' O (nI 1)) (nI d))
  refine acw gdX0_restore 60 rfl ⟨fun _ => ⟨fun _ => ?_, fun h => absurd (hx.symm.trans h) (by decide)⟩, fun h => absurd (hd.symm.trans h) (fun z => by have := (neqI (a := d + 1) (b := 0) (by omega) (by omega)).mp z; omega)⟩
  refine ⟨2, 8, _, 18, Or.inl rfl, rfl, vin en (by decide) (by decide), ?_, ?_⟩
  · show (fun i => if i < 8 then some (13 + 5 * i) else none) (o_nx O - 1 : Int32).toNatClampNeg = _
    rw [vcl en (by decide)]
    rfl
  refine ac_hp ?_ (ac_to hB ⟨rfl, rfl, rfl⟩)
  show List.set (List.set (lay (S, O)) 11 (.inr (0, [.ref 12, .int (o_kn O), .int (o_nx O - 1)]))) 11 (.inr (0, [.ref 12, .int (o_kn O - 1), .int (o_nx O - 1)])) = _
  rw [ek, en]
  rfl
theorem ac_res2 {d : Nat} (h8 : d + 1 ≤ 8) (hx : o_nx O = nI 3) (hd : o_kn O = nI (d + 1)) : ACe g mX0_restore [.ref 11, .ref 1] (lay (S, O)) (some (.int 1)) (lay (bec (o_P O 2) S, o_kn' (o_nx' O (nI 2)) (nI d))) := by
  have ek : o_kn O - 1 = nI d := by rw [hd]; exact nI_pred d
  have en : o_nx O - 1 = nI 2 := by first | rfl | (rw [hx]; rfl)
  have hB := ac_becQ2 (g := g) (S := S) (O := o_kn' (o_nx' O (nI 2)) (nI d))
  refine acw gdX0_restore 60 rfl ⟨fun _ => ⟨fun _ => ?_, fun h => absurd (hx.symm.trans h) (by decide)⟩, fun h => absurd (hd.symm.trans h) (fun z => by have := (neqI (a := d + 1) (b := 0) (by omega) (by omega)).mp z; omega)⟩
  refine ⟨2, 8, _, 23, Or.inl rfl, rfl, vin en (by decide) (by decide), ?_, ?_⟩
  · show (fun i => if i < 8 then some (13 + 5 * i) else none) (o_nx O - 1 : Int32).toNatClampNeg = _
    rw [vcl en (by decide)]
    rfl
  refine ac_hp ?_ (ac_to hB ⟨rfl, rfl, rfl⟩)
  show List.set (List.set (lay (S, O)) 11 (.inr (0, [.ref 12, .int (o_kn O), .int (o_nx O - 1)]))) 11 (.inr (0, [.ref 12, .int (o_kn O - 1), .int (o_nx O - 1)])) = _
  rw [ek, en]
  rfl
theorem ac_res3 {d : Nat} (h8 : d + 1 ≤ 8) (hx : o_nx O = nI 4) (hd : o_kn O = nI (d + 1)) : ACe g mX0_restore [.ref 11, .ref 1] (lay (S, O)) (some (.int 1)) (lay (bec (o_P O 3) S, o_kn' (o_nx' O (nI 3)) (nI d))) := by
  have ek : o_kn O - 1 = nI d := by rw [hd]; exact nI_pred d
  have en : o_nx O - 1 = nI 3 := by first | rfl | (rw [hx]; rfl)
  have hB := ac_becQ3 (g := g) (S := S) (O := o_kn' (o_nx' O (nI 3)) (nI d))
  refine acw gdX0_restore 60 rfl ⟨fun _ => ⟨fun _ => ?_, fun h => absurd (hx.symm.trans h) (by decide)⟩, fun h => absurd (hd.symm.trans h) (fun z => by have := (neqI (a := d + 1) (b := 0) (by omega) (by omega)).mp z; omega)⟩
  refine ⟨2, 8, _, 28, Or.inl rfl, rfl, vin en (by decide) (by decide), ?_, ?_⟩
  · show (fun i => if i < 8 then some (13 + 5 * i) else none) (o_nx O - 1 : Int32).toNatClampNeg = _
    rw [vcl en (by decide)]
    rfl
  refine ac_hp ?_ (ac_to hB ⟨rfl, rfl, rfl⟩)
  show List.set (List.set (lay (S, O)) 11 (.inr (0, [.ref 12, .int (o_kn O), .int (o_nx O - 1)]))) 11 (.inr (0, [.ref 12, .int (o_kn O - 1), .int (o_nx O - 1)])) = _
  rw [ek, en]
  rfl
theorem ac_res4 {d : Nat} (h8 : d + 1 ≤ 8) (hx : o_nx O = nI 5) (hd : o_kn O = nI (d + 1)) : ACe g mX0_restore [.ref 11, .ref 1] (lay (S, O)) (some (.int 1)) (lay (bec (o_P O 4) S, o_kn' (o_nx' O (nI 4)) (nI d))) := by
  have ek : o_kn O - 1 = nI d := by rw [hd]; exact nI_pred d
  have en : o_nx O - 1 = nI 4 := by first | rfl | (rw [hx]; rfl)
  have hB := ac_becQ4 (g := g) (S := S) (O := o_kn' (o_nx' O (nI 4)) (nI d))
  refine acw gdX0_restore 60 rfl ⟨fun _ => ⟨fun _ => ?_, fun h => absurd (hx.symm.trans h) (by decide)⟩, fun h => absurd (hd.symm.trans h) (fun z => by have := (neqI (a := d + 1) (b := 0) (by omega) (by omega)).mp z; omega)⟩
  refine ⟨2, 8, _, 33, Or.inl rfl, rfl, vin en (by decide) (by decide), ?_, ?_⟩
  · show (fun i => if i < 8 then some (13 + 5 * i) else none) (o_nx O - 1 : Int32).toNatClampNeg = _
    rw [vcl en (by decide)]
    rfl
  refine ac_hp ?_ (ac_to hB ⟨rfl, rfl, rfl⟩)
  show List.set (List.set (lay (S, O)) 11 (.inr (0, [.ref 12, .int (o_kn O), .int (o_nx O - 1)]))) 11 (.inr (0, [.ref 12, .int (o_kn O - 1), .int (o_nx O - 1)])) = _
  rw [ek, en]
  rfl
theorem ac_res5 {d : Nat} (h8 : d + 1 ≤ 8) (hx : o_nx O = nI 6) (hd : o_kn O = nI (d + 1)) : ACe g mX0_restore [.ref 11, .ref 1] (lay (S, O)) (some (.int 1)) (lay (bec (o_P O 5) S, o_kn' (o_nx' O (nI 5)) (nI d))) := by
  have ek : o_kn O - 1 = nI d := by rw [hd]; exact nI_pred d
  have en : o_nx O - 1 = nI 5 := by first | rfl | (rw [hx]; rfl)
  have hB := ac_becQ5 (g := g) (S := S) (O := o_kn' (o_nx' O (nI 5)) (nI d))
  refine acw gdX0_restore 60 rfl ⟨fun _ => ⟨fun _ => ?_, fun h => absurd (hx.symm.trans h) (by decide)⟩, fun h => absurd (hd.symm.trans h) (fun z => by have := (neqI (a := d + 1) (b := 0) (by omega) (by omega)).mp z; omega)⟩
  refine ⟨2, 8, _, 38, Or.inl rfl, rfl, vin en (by decide) (by decide), ?_, ?_⟩
  · show (fun i => if i < 8 then some (13 + 5 * i) else none) (o_nx O - 1 : Int32).toNatClampNeg = _
    rw [vcl en (by decide)]
    rfl
  refine ac_hp ?_ (ac_to hB ⟨rfl, rfl, rfl⟩)
  show List.set (List.set (lay (S, O)) 11 (.inr (0, [.ref 12, .int (o_kn O), .int (o_nx O - 1)]))) 11 (.inr (0, [.ref 12, .int (o_kn O - 1), .int (o_nx O - 1)])) = _
  rw [ek, en]
  rfl
theorem ac_res6 {d : Nat} (h8 : d + 1 ≤ 8) (hx : o_nx O = nI 7) (hd : o_kn O = nI (d + 1)) : ACe g mX0_restore [.ref 11, .ref 1] (lay (S, O)) (some (.int 1)) (lay (bec (o_P O 6) S, o_kn' (o_nx' O (nI 6)) (nI d))) := by
  have ek : o_kn O - 1 = nI d := by rw [hd]; exact nI_pred d
  have en : o_nx O - 1 = nI 6 := by first | rfl | (rw [hx]; rfl)
  have hB := ac_becQ6 (g := g) (S := S) (O := o_kn' (o_nx' O (nI 6)) (nI d))
  refine acw gdX0_restore 60 rfl ⟨fun _ => ⟨fun _ => ?_, fun h => absurd (hx.symm.trans h) (by decide)⟩, fun h => absurd (hd.symm.trans h) (fun z => by have := (neqI (a := d + 1) (b := 0) (by omega) (by omega)).mp z; omega)⟩
  refine ⟨2, 8, _, 43, Or.inl rfl, rfl, vin en (by decide) (by decide), ?_, ?_⟩
  · show (fun i => if i < 8 then some (13 + 5 * i) else none) (o_nx O - 1 : Int32).toNatClampNeg = _
    rw [vcl en (by decide)]
    rfl
  refine ac_hp ?_ (ac_to hB ⟨rfl, rfl, rfl⟩)
  show List.set (List.set (lay (S, O)) 11 (.inr (0, [.ref 12, .int (o_kn O), .int (o_nx O - 1)]))) 11 (.inr (0, [.ref 12, .int (o_kn O - 1), .int (o_nx O - 1)])) = _
  rw [ek, en]
  rfl
theorem ac_res7 {d : Nat} (h8 : d + 1 ≤ 8) (hx : o_nx O = nI 0) (hd : o_kn O = nI (d + 1)) : ACe g mX0_restore [.ref 11, .ref 1] (lay (S, O)) (some (.int 1)) (lay (bec (o_P O 7) S, o_kn' (o_nx' O (nI 7)) (nI d))) := by
  have ek : o_kn O - 1 = nI d := by rw [hd]; exact nI_pred d
  have en : 7 = nI 7 := by first | rfl | (rw [hx]; rfl)
  have hB := ac_becQ7 (g := g) (S := S) (O := o_kn' (o_nx' O (nI 7)) (nI d))
  refine acw gdX0_restore 60 rfl ⟨fun _ => ⟨fun h => absurd hx h, fun _ => ?_⟩, fun h => absurd (hd.symm.trans h) (fun z => by have := (neqI (a := d + 1) (b := 0) (by omega) (by omega)).mp z; omega)⟩
  refine ⟨2, 8, _, 48, Or.inl rfl, rfl, vin en (by decide) (by decide), ?_, ?_⟩
  · show (fun i => if i < 8 then some (13 + 5 * i) else none) (7 : Int32).toNatClampNeg = _
    rw [vcl en (by decide)]
    rfl
  refine ac_hp ?_ (ac_to hB ⟨rfl, rfl, rfl⟩)
  show List.set (List.set (lay (S, O)) 11 (.inr (0, [.ref 12, .int (o_kn O), .int (7)]))) 11 (.inr (0, [.ref 12, .int (o_kn O - 1), .int (7)])) = _
  rw [ek, en]
  rfl
theorem ac_restore {d x : Nat} (h8 : d + 1 ≤ 8) (hx8 : x < 8) (hx : o_nx O = nI x) (hd : o_kn O = nI (d + 1)) : ACe g mX0_restore [.ref 11, .ref 1] (lay (S, O)) (some (.int 1)) (lay (bec (o_P O ((x + 7) % 8)) S, o_kn' (o_nx' O (nI ((x + 7) % 8))) (nI d))) := by
  rcases (show x = 0 ∨ x = 1 ∨ x = 2 ∨ x = 3 ∨ x = 4 ∨ x = 5 ∨ x = 6 ∨ x = 7 by omega) with rfl | rfl | rfl | rfl | rfl | rfl | rfl | rfl
  · exact ac_res7 h8 hx hd
  · exact ac_res0 h8 hx hd
  · exact ac_res1 h8 hx hd
  · exact ac_res2 h8 hx hd
  · exact ac_res3 h8 hx hd
  · exact ac_res4 h8 hx hd
  · exact ac_res5 h8 hx hd
  · exact ac_res6 h8 hx hd
theorem ac_restore0 (hd : o_kn O = nI 0) : ACe g mX0_restore [.ref 11, .ref 1] (lay (S, O)) (some (.int 0)) (lay (S, O)) :=
  acw gdX0_restore 60 rfl ⟨fun h => absurd hd h, fun _ => ⟨rfl, rfl, rfl⟩⟩
theorem pr_undo : Pr g mX5_undo mX6_undo [] := by
  rintro ⟨S, O⟩ ⟨i1, ⟨d, x, h8, hx8, k1, k2, k3, hP⟩, i3, i4, i5⟩
  cases d with
  | zero =>
    refine ⟨-2, (S, O), (S, O), ?_, ?_, ⟨i1, ⟨0, x, h8, hx8, k1, k2, k3, hP⟩, i3, i4, i5⟩⟩
    · exact acw gdX5_undo 40 rfl (ac_to (ac_restore0 k1) ⟨fun _ => ⟨rfl, rfl⟩, fun h => absurd rfl h⟩)
    · exact acw gdX6_undo 40 rfl ⟨fun h => absurd k2 h, fun _ => ⟨rfl, rfl⟩⟩
  | succ d =>
    have ek : z_deeds (o_M O) - 1 = nI d := by
      have : z_deeds (o_M O) = nI (d + 1) := k2
      rw [this]; exact nI_pred d
    have hB := am_bringPN (g := g) (S := bec (o_P O ((x + 7) % 8)) S) (O := o_M' (o_kn' (o_nx' O (nI ((x + 7) % 8))) (nI d)) (z_deeds' (o_M O) (nI d))) (i := 64 * d) (by omega)
    have hrow := hP d (by omega)
    rw [show (x + 8 - (d + 1) + d) % 8 = (x + 7) % 8 by omega] at hrow
    have hR : Rw (bec (o_P O ((x + 7) % 8)) S) (va_cpy (z_past (o_M O)) (z_now (o_M O)) (64 * d) 0 64) := by
      refine hrow.bec.cg (fun i hi => ?_)
      unfold row
      rw [pk_cpy_in (by omega) (by omega)]
      congr 1
    have hC := ac_restore (g := g) (S := S) (O := O) h8 hx8 k3 k1
    generalize hN : va_cpy (z_past (o_M O)) (z_now (o_M O)) (64 * d) 0 64 = N at hR
    replace hB : ACe g mX6_bring [.ref 97, .int (nI (64 * d)), .ref 95, .int 0] (lay (bec (o_P O ((x + 7) % 8)) S, o_M' (o_kn' (o_nx' O (nI ((x + 7) % 8))) (nI d)) (z_deeds' (o_M O) (nI d)))) none (lay (bec (o_P O ((x + 7) % 8)) S, o_M' (o_kn' (o_nx' O (nI ((x + 7) % 8))) (nI d)) (z_now' (z_deeds' (o_M O) (nI d)) N))) := by rw [← hN]; exact hB
    clear hN
    generalize bec (o_P O ((x + 7) % 8)) S = S' at hB hR hC
    refine ⟨nI d, (S', o_kn' (o_nx' O (nI ((x + 7) % 8))) (nI d)), (S', o_M' (o_kn' (o_nx' O (nI ((x + 7) % 8))) (nI d)) (z_now' (z_deeds' (o_M O) (nI d)) N)), ?_, ?_, ⟨hR, ⟨d, (x + 7) % 8, by omega, by omega, rfl, rfl, rfl, fun j hj => ?_⟩, i3, i4, i5⟩⟩
    · exact acw gdX5_undo 40 rfl (ac_to hC ⟨fun h => absurd h (by decide), fun _ => ⟨rfl, rfl⟩⟩)
    · have e1 : 64 * nI d = nI (64 * d) := by rw [nlit, pk_mul]
      refine acw gdX6_undo 40 rfl ⟨fun _ => ?_, fun h => absurd (k2.symm.trans h) (fun z => by have := (neqI (a := d + 1) (b := 0) (by omega) (by omega)).mp z; omega)⟩
      refine ac_ar (by show [Value.ref 97, Value.int (64 * (z_deeds (o_M O) - 1)), Value.ref 95, Value.int 0] = _; rw [ek, e1]) (ac_hp ?_ (ac_to hB ⟨rfl, rfl⟩))
      show List.set (lay _) 94 (.inr (6, [_, _, _, .int (z_deeds (o_M O) - 1), _, _, _, _, _, _, _, _, _, _, _, _, _, _, _, _, _, _, _])) = _
      rw [ek]
      rfl
    · have := hP j (by omega)
      rw [show (x + 8 - (d + 1) + j) % 8 = ((x + 7) % 8 + 8 - d + j) % 8 by omega] at this
      exact this
end RS
end
section
section KB
variable {g : Glob} {S : Scn} {O : Oth}
theorem ac_becI {i : Nat} (hi : i < 2) : ACe g mX3_become [.ref (83 + 5 * i), .ref 1] (lay (S, O)) none (lay (S, o_I' O (putP (o_I O) i (bec S (o_I O i))))) := by
  rcases (show i = 0 ∨ i = 1 by omega) with rfl | rfl
  · exact ac_becI0
  · exact ac_becI1
theorem ac_becJ {i : Nat} (hi : i < 2) : ACe g mX3_become [.ref 1, .ref (83 + 5 * i)] (lay (S, O)) none (lay (bec (o_I O i) S, O)) := by
  rcases (show i = 0 ∨ i = 1 by omega) with rfl | rfl
  · exact ac_becJ0
  · exact ac_becJ1
theorem nar1 : vp_nar .boolean 1 = 1 := by decide
theorem bad2 {x : Int32} (h : x < 0 ∨ nI 2 ≤ x) : ACe g mX5_keep [.ref 0, .int x] (lay (S, O)) (some (.int (-1))) (lay (S, O)) ∧ ACe g mX5_back [.ref 0, .int x] (lay (S, O)) (some (.int (-1))) (lay (S, O)) ∧ ACe g mX6_keep [.ref 94, .int x] (lay (S, O)) (some (.int (-1))) (lay (S, O)) ∧ ACe g mX6_back [.ref 94, .int x] (lay (S, O)) (some (.int (-1))) (lay (S, O)) := by
  have h2 : ∀ (y : x < 2), ¬ x < 0 → False := fun y z => by
    rcases h with h | h
    · exact z h
    · exact absurd y (Int32.not_lt.mpr h)
  have h3 : bi (!decide (x < 0) && !decide (1 < x)) = 0 := by
    rcases h with h | h
    · simp [bi, h]
    · have : 1 < x := by
        rw [Int32.lt_iff_toInt_lt]
        have e1 : (1 : Int32).toInt = 1 := by decide
        have e2 : (nI 2).toInt ≤ x.toInt := Int32.le_iff_toInt_le.mp h
        have e3 : (nI 2).toInt = 2 := by decide
        omega
      simp [bi, this]
  refine ⟨?_, ?_, ?_, ?_⟩
  · exact acw gdX5_keep 40 rfl ⟨fun _ => ⟨rfl, rfl⟩, fun h1 => ⟨fun y => (h2 y h1).elim, fun _ => ⟨rfl, rfl⟩⟩⟩
  · exact acw gdX5_back 40 rfl ⟨fun _ => ⟨rfl, rfl⟩, fun h1 => ⟨fun y => (h2 y h1).elim, fun _ => ⟨rfl, rfl⟩⟩⟩
  · exact acw gdX6_keep 40 rfl (ac_to (am_in _ _ _ _) ⟨fun z => absurd h3 z, fun _ => ⟨rfl, rfl⟩⟩)
  · exact acw gdX6_back 40 rfl (ac_to (am_in _ _ _ _) ⟨fun z => absurd h3 z, fun _ => ⟨rfl, rfl⟩⟩)
theorem pr_keep (x : Int32) : Pr g mX5_keep mX6_keep [.int x] := by
  rintro ⟨S, O⟩ hI
  rcases ix x (n := 2) (by decide) with h | h | ⟨k, hk, rfl⟩
  · have hb := bad2 (g := g) (S := S) (O := O) (Or.inl h)
    exact ⟨-1, (S, O), (S, O), hb.1, hb.2.2.1, hI⟩
  · have hb := bad2 (g := g) (S := S) (O := O) (Or.inr h)
    exact ⟨-1, (S, O), (S, O), hb.1, hb.2.2.1, hI⟩
  obtain ⟨⟨eo, m, n, hS, hw⟩, i2, i3, i4, i5⟩ := hI
  have hC := ac_becI (g := g) (S := S) (O := O) hk
  have e64 : 64 * nI k = nI (64 * k) := by rw [nlit, pk_mul]
  have hB := am_bringNI (g := g) (S := S) (O := o_kp' (o_I' O (putP (o_I O) k (bec S (o_I O k)))) (upd (o_kp O) k 1)) (j := 64 * k) (by omega)
  have hRn : Rw S (z_now (o_M O)) := ⟨eo, m, n, hS, hw⟩
  have hRow : ∀ j, j < 2 → row (va_cpy (z_now (o_M O)) (z_img (o_M O)) 0 (64 * k) 64) j = row (va_cpy (z_now (o_M O)) (z_img (o_M O)) 0 (64 * k) 64) j := fun _ _ => rfl
  have i3' : ∀ j, j < 2 → j ≠ k → ∀ N, N = va_cpy (z_now (o_M O)) (z_img (o_M O)) 0 (64 * k) 64 → (o_kp O j = 0 ∨ (o_kp O j = 1 ∧ Rw (o_I O j) (row N j))) := by
    intro j hj hjk N hN
    rcases (i3 j hj).2 with z | ⟨z, zR⟩
    · exact Or.inl z
    · refine Or.inr ⟨z, zR.cg (fun i hi => ?_)⟩
      unfold row
      rw [hN, pk_cpy_out (by omega)]
  have iK : ∀ N, N = va_cpy (z_now (o_M O)) (z_img (o_M O)) 0 (64 * k) 64 → Rw (bec S (o_I O k)) (row N k) := by
    intro N hN
    refine hRn.bec.cg (fun i hi => ?_)
    unfold row
    rw [hN, pk_cpy_in (by omega) (by omega)]
    exact congrArg _ (by omega)
  generalize hN : va_cpy (z_now (o_M O)) (z_img (o_M O)) 0 (64 * k) 64 = N at *
  replace hB : ACe g mX6_bring [.ref 95, .int 0, .ref 98, .int (nI (64 * k))] (lay (S, o_kp' (o_I' O (putP (o_I O) k (bec S (o_I O k)))) (upd (o_kp O) k 1))) none (lay (S, o_M' (o_kp' (o_I' O (putP (o_I O) k (bec S (o_I O k)))) (upd (o_kp O) k 1)) (z_img' (o_M O) N))) := hB
  have iK := iK N rfl
  have i3' := fun j hj hjk => i3' j hj hjk N rfl
  have epk : putP (o_I O) k (bec S (o_I O k)) k = bec S (o_I O k) := if_pos rfl
  have epj : ∀ j, j ≠ k → putP (o_I O) k (bec S (o_I O k)) j = o_I O j := fun j hj => if_neg hj
  generalize putP (o_I O) k (bec S (o_I O k)) = II at *
  refine ⟨nI n, (S, o_kp' (o_I' O II) (upd (o_kp O) k 1)), (S, o_M' (o_kp' (o_I' O II) (upd (o_kp O) k 1)) (z_kept' (z_img' (o_M O) N) (upd (z_kept (o_M O)) k 1))), ?_, ?_, ⟨⟨eo, m, n, hS, hw⟩, i2, fun j hj => ?_, i4, i5⟩⟩
  · rcases (show k = 0 ∨ k = 1 by omega) with rfl | rfl
    · refine acw gdX5_keep 60 rfl ⟨fun h => absurd h (by decide), fun _ => ⟨fun _ => ?_, fun h => absurd (by decide) h⟩⟩
      refine ⟨2, 2, _, 83, Or.inl rfl, rfl, vlit (j := 0) (by decide) (by decide), rfl, ac_to hC ?_⟩
      refine ⟨_, _, rfl, vlit (j := 0) (by decide) (by decide), ?_⟩
      rw [vcl (x := nI 0) rfl (by decide), nar1]
      exact ⟨congrArg (fun z => some (Value.int z)) hS.2.1, rfl⟩
    · refine acw gdX5_keep 60 rfl ⟨fun h => absurd h (by decide), fun _ => ⟨fun _ => ?_, fun h => absurd (by decide) h⟩⟩
      refine ⟨2, 2, _, 88, Or.inl rfl, rfl, vlit (j := 1) (by decide) (by decide), rfl, ac_to hC ?_⟩
      refine ⟨_, _, rfl, vlit (j := 1) (by decide) (by decide), ?_⟩
      rw [vcl (x := nI 1) rfl (by decide), nar1]
      exact ⟨congrArg (fun z => some (Value.int z)) hS.2.1, rfl⟩
  · refine acw gdX6_keep 60 rfl (ac_to (am_in _ _ _ _) ⟨fun _ => ?_, fun h => absurd h (by rw [show bi (!decide (nI k < 0) && !decide (1 < nI k)) = 1 from in_t (n := 1) (by omega) (by decide) rfl]; decide)⟩)
    refine ac_ar (by rw [← e64]) (ac_to hB ?_)
    refine ⟨_, _, rfl, vlit hk (by decide), ?_⟩
    refine ⟨_, _, rfl, vlit (j := 13) (by decide) (by decide), ?_⟩
    rw [vcl (x := nI k) rfl (by omega), nar1]
    exact ⟨congrArg (fun z => some (Value.int z)) hw.2.2.1, rfl⟩
  · by_cases h : j = k
    · subst h
      refine ⟨pk_us.trans pk_us.symm, Or.inr ⟨pk_us, ?_⟩⟩
      show Rw (II j) (row N j)
      rw [epk]
      exact iK
    · refine ⟨(pk_un h).trans ((i3 j hj).1.trans (pk_un h).symm), ?_⟩
      rcases i3' j hj h with z | ⟨z, zR⟩
      · exact Or.inl ((pk_un h).trans z)
      · refine Or.inr ⟨(pk_un h).trans z, ?_⟩
        show Rw (II j) (row N j)
        rw [epj j h]
        exact zR
theorem pr_back (x : Int32) : Pr g mX5_back mX6_back [.int x] := by
  rintro ⟨S, O⟩ hI
  rcases ix x (n := 2) (by decide) with h | h | ⟨k, hk, rfl⟩
  · have hb := bad2 (g := g) (S := S) (O := O) (Or.inl h)
    exact ⟨-1, (S, O), (S, O), hb.2.1, hb.2.2.2, hI⟩
  · have hb := bad2 (g := g) (S := S) (O := O) (Or.inr h)
    exact ⟨-1, (S, O), (S, O), hb.2.1, hb.2.2.2, hI⟩
  have hI0 := hI
  obtain ⟨i1, ⟨d, y, h8, hy8, k1, k2, k3, hP⟩, i3, i4, i5⟩ := hI
  obtain ⟨ek, hk01⟩ := i3 k hk
  have hin : bi (!decide (nI k < 0) && !decide (1 < nI k)) = 1 := in_t (n := 1) (by omega) (by decide) rfl
  rcases hk01 with h0 | ⟨h1, hR⟩
  · refine ⟨-2, (S, O), (S, O), ?_, ?_, hI0⟩
    · refine acw gdX5_back 60 rfl ⟨fun h => absurd h (nlt0 k (by omega)), fun _ => ⟨fun _ => ?_, fun h => absurd ((nltI (b := 2) (by omega) (by omega)).mpr hk) h⟩⟩
      refine ⟨_, _, rfl, vlit hk (by decide), ?_⟩
      rw [vcl (x := nI k) rfl (by omega)]
      exact ⟨fun h => absurd h0 h, fun _ => ⟨rfl, rfl⟩⟩
    · refine acw gdX6_back 60 rfl (ac_to (am_in _ _ _ _) ⟨fun _ => ?_, fun h => absurd h (by rw [hin]; decide)⟩)
      refine ⟨_, _, rfl, vlit hk (by decide), ?_⟩
      rw [vcl (x := nI k) rfl (by omega)]
      exact ⟨fun h => absurd (ek.symm.trans h0) h, fun _ => ⟨rfl, rfl⟩⟩
  · have e64 : 64 * nI k = nI (64 * k) := by rw [nlit, pk_mul]
    have hC := ac_becJ (g := g) (S := S) (O := O) hk
    have hB := am_bringIN (g := g) (S := bec (o_I O k) S) (O := o_kn' O 0) (i := 64 * k) (by omega)
    have hRn : Rw (bec (o_I O k) S) (va_cpy (z_img (o_M O)) (z_now (o_M O)) (64 * k) 0 64) := by
      refine hR.bec.cg (fun i hi => ?_)
      unfold row
      rw [pk_cpy_in (by omega) (by omega)]
      exact congrArg _ (by omega)
    generalize va_cpy (z_img (o_M O)) (z_now (o_M O)) (64 * k) 0 64 = N at hRn hB
    generalize bec (o_I O k) S = S' at hC hB hRn
    obtain ⟨eo, m, n, hS, hw⟩ := hRn
    refine ⟨nI n, (S', o_kn' O 0), (S', o_M' (o_kn' O 0) (z_deeds' (z_now' (o_M O) N) 0)), ?_, ?_, ⟨⟨eo, m, n, hS, hw⟩, ⟨0, y, by decide, hy8, rfl, rfl, k3, fun j hj => absurd hj (by omega)⟩, i3, i4, i5⟩⟩
    · have hne : ¬ o_kp O k = 0 := by rw [h1]; decide
      rcases (show k = 0 ∨ k = 1 by omega) with rfl | rfl
      · refine acw gdX5_back 60 rfl ⟨fun h => absurd h (by decide), fun _ => ⟨fun _ => ?_, fun h => absurd (by decide) h⟩⟩
        refine ⟨_, _, rfl, vlit (j := 0) (by decide) (by decide), ⟨fun _ => ?_, fun h => absurd h hne⟩⟩
        refine ⟨2, 2, _, 83, Or.inl rfl, rfl, vlit (j := 0) (by decide) (by decide), rfl, ac_to hC ?_⟩
        exact ⟨congrArg (fun z => some (Value.int z)) hS.2.1, rfl⟩
      · refine acw gdX5_back 60 rfl ⟨fun h => absurd h (by decide), fun _ => ⟨fun _ => ?_, fun h => absurd (by decide) h⟩⟩
        refine ⟨_, _, rfl, vlit (j := 1) (by decide) (by decide), ⟨fun _ => ?_, fun h => absurd h hne⟩⟩
        refine ⟨2, 2, _, 88, Or.inl rfl, rfl, vlit (j := 1) (by decide) (by decide), rfl, ac_to hC ?_⟩
        exact ⟨congrArg (fun z => some (Value.int z)) hS.2.1, rfl⟩
    · refine acw gdX6_back 60 rfl (ac_to (am_in _ _ _ _) ⟨fun _ => ?_, fun h => absurd h (by rw [hin]; decide)⟩)
      refine ⟨_, _, rfl, vlit hk (by decide), ?_⟩
      rw [vcl (x := nI k) rfl (by omega)]
      refine ⟨fun _ => ?_, fun h => absurd ((ek.trans h).symm.trans h1) (by decide)⟩
      refine ac_ar (by rw [← e64]) (ac_to hB ?_)
      refine ⟨_, _, rfl, vlit (j := 13) (by decide) (by decide), ?_⟩
      exact ⟨congrArg (fun z => some (Value.int z)) hw.2.2.1, rfl⟩
end KB
end
section
section PT
variable {g : Glob} {S : Scn} {O : Oth}
/-- what is told to the past, both sides -/
theorem deed (hR : Rw S (z_now (o_M O))) (hI : iPast O) : ∃ (PP : Nat → Scn) (kn nx : Int32) (G : Fn), ACe g mX0_remember [.ref 11, .ref 1] (lay (S, O)) none (lay (S, o_nx' (o_kn' (o_P' O PP) kn) nx)) ∧ (∀ (S' : Scn) (O' : Oth), z_now (o_M O') = z_now (o_M O) → z_past (o_M O') = z_past (o_M O) → z_deeds (o_M O') = z_deeds (o_M O) → ACe g mX6_note [.ref 94] (lay (S', O')) none (lay (S', o_M' O' (z_deeds' (z_past' (o_M O') G) kn)))) ∧ (∀ O' : Oth, o_P O' = PP → o_kn O' = kn → o_nx O' = nx → z_past (o_M O') = G → z_deeds (o_M O') = kn → iPast O') := by
  obtain ⟨d, x, h8, hx8, k1, k2, k3, hP⟩ := hI
  refine ⟨putP (o_P O) x (bec S (o_P O x)), nI (min (d + 1) 8), nI ((x + 1) % 8), nG (z_now (o_M O)) (z_past (o_M O)) d, ac_remember h8 hx8 k3 k1, ?_, ?_⟩
  · intro S' O' e1 e2 e3
    have := am_note (g := g) (S := S') (O := O') h8 (e3.trans k2)
    rw [e1, e2] at this
    exact this
  · intro O' e1 e2 e3 e4 e5
    exact past_step h8 hx8 hP hR e1 e2 e3 e4 e5
theorem Rw.edt {r : Fn} {eo : Nat → Option Nat} {m n l : Nat} (hS : ScC S r m n) (hw : WfR r eo m n) (hl : l < m) (o : Option Nat) (ho : okO n o) : Rw (s_ed' S (upd (s_ed S) l (sh o))) (upd r (56 + l) (sh o)) := by
  have h8 := hw.2.1
  have h6 := hw.2.2.2.1
  have hlo : ∀ i, i < 56 → upd r (56 + l) (sh o) i = r i := fun i hi => pk_un (by omega)
  refine ⟨fun i => if i = l then o else eo i, m, n, ⟨hS.1, hS.2.1, fun i hi => ?_, fun i hi => ?_, fun i hi => ?_, fun i hi => ?_⟩, ⟨?_, h8, ?_, h6, fun i hi => ?_, fun s hs k hk => ?_, fun i hi => ?_, fun i hi => ?_⟩⟩
  · rw [hlo i (by omega)]; exact hS.2.2.1 i hi
  · rw [hlo _ (by omega)]; exact hS.2.2.2.1 i hi
  · rw [hlo _ (by omega)]; exact hS.2.2.2.2.1 i hi
  · show upd (s_ed S) l (sh o) i = _
    by_cases h : i = l
    · subst h; rw [pk_us, pk_us]
    · rw [pk_un h, pk_un (by omega)]; exact hS.2.2.2.2.2 i hi
  · rw [hlo 4 (by decide)]; exact hw.1
  · rw [hlo 13 (by decide)]; exact hw.2.2.1
  · rw [hlo i (by omega)]; exact hw.2.2.2.2.1 i hi
  · show ∃ v : Nat, v ≤ 9 ∧ upd r (56 + l) (sh o) (14 + (7 * s + k)) = nI v
    rw [hlo _ (by omega)]; exact hw.2.2.2.2.2.1 s hs k hk
  · by_cases h : i = l
    · subst h; dsimp only; rw [pk_us, if_pos rfl]; exact ⟨rfl, ho⟩
    · dsimp only; rw [pk_un (by omega), if_neg h]; exact hw.2.2.2.2.2.2.1 i hi
  · have : i ≠ l := by omega
    simp only [this, if_false]
    exact hw.2.2.2.2.2.2.2 i hi
theorem pr_takes (l : Int32) : Pr g mX5_takes mX6_takes [.int l] := by
  rintro ⟨S, O⟩ hI
  have hI0 := hI
  obtain ⟨hR, hP, i3, i4, i5⟩ := hI
  obtain ⟨PP, kn, nx, G, dC, dM, dI⟩ := deed (g := g) hR hP
  obtain ⟨eo, m, n, hS, hw⟩ := hR
  have h8 := hw.2.1
  have h6 := hw.2.2.2.1
  have C1 := ac_hasLine' (g := g) (S := S) (O := O) l hS.1
  rcases ix l (n := m) (by omega) with h | h | ⟨j, hj, rfl⟩
  · have M1 := am_isLine' (g := g) (S := S) (O := O) l hw.1 (by omega)
    rw [ln_f (Or.inl h)] at C1 M1
    refine ⟨-1, (S, O), (S, O), ?_, ?_, hI0⟩
    · exact acw gdX5_takes 40 rfl (ac_to C1 ⟨fun h => absurd rfl h, fun _ => ⟨rfl, rfl⟩⟩)
    · exact acw gdX6_takes 40 rfl (ac_to M1 ⟨fun h => absurd rfl h, fun _ => ⟨rfl, rfl⟩⟩)
  · have M1 := am_isLine' (g := g) (S := S) (O := O) l hw.1 (by omega)
    rw [ln_f (Or.inr h)] at C1 M1
    refine ⟨-1, (S, O), (S, O), ?_, ?_, hI0⟩
    · exact acw gdX5_takes 40 rfl (ac_to C1 ⟨fun h => absurd rfl h, fun _ => ⟨rfl, rfl⟩⟩)
    · exact acw gdX6_takes 40 rfl (ac_to M1 ⟨fun h => absurd rfl h, fun _ => ⟨rfl, rfl⟩⟩)
  rw [ln_t hj (by omega)] at C1
  have hed := hw.2.2.2.2.2.2.1 j (by omega)
  have e1 : s_ed S j = sh (eo j) := (hS.2.2.2.2.2 j (by omega)).trans hed.1
  have e56 : 56 + nI j = nI (56 + j) := by simp only [nlit, nI_add]
  by_cases hn : eo j = none
  · have M1 := am_isLine' (g := g) (S := S) (O := O) (nI j) hw.1 (by omega)
    rw [ln_t hj (by omega)] at M1
    refine ⟨-2, (S, O), (S, O), ?_, ?_, hI0⟩
    · refine acw gdX5_takes 40 rfl (ac_to C1 ⟨fun _ => ?_, fun h => absurd h n01⟩)
      refine ⟨_, _, rfl, vlit (by omega) (by decide), ?_⟩
      rw [vcl rfl (by omega), show s_ed (S, O).fst j = sh (eo j) from e1, hn]
      exact ⟨fun h => absurd rfl h, fun _ => ⟨rfl, rfl⟩⟩
    · refine acw gdX6_takes 40 rfl (ac_to M1 ⟨fun _ => ?_, fun h => absurd h n01⟩)
      refine ⟨_, _, rfl, vin e56 (by omega) (by decide), ?_⟩
      rw [vcl e56 (by omega), show z_now (o_M (S, O).snd) (56 + j) = sh (eo j) from hed.1, hn]
      exact ⟨fun h => absurd rfl h, fun _ => ⟨rfl, rfl⟩⟩
  have hne : ¬ sh (eo j) = -9 := fun z => hn ((sh_none hed.2 (by omega)).mp z)
  have hRn : Rw (s_ed' S (upd (s_ed S) j (-9))) (upd (z_now (o_M O)) (56 + j) (-9)) := Rw.edt hS hw hj none (fun _ z => by cases z)
  refine ⟨sh (eo j), (s_ed' S (upd (s_ed S) j (-9)), o_nx' (o_kn' (o_P' O PP) kn) nx), (s_ed' S (upd (s_ed S) j (-9)), o_M' (o_nx' (o_kn' (o_P' O PP) kn) nx) (z_now' (z_deeds' (z_past' (o_M O) G) kn) (upd (z_now (o_M O)) (56 + j) (-9)))), ?_, ?_, ⟨hRn, dI _ rfl rfl rfl rfl rfl, i3, i4, i5⟩⟩
  · refine acw gdX5_takes 40 rfl (ac_to C1 ⟨fun _ => ?_, fun h => absurd h n01⟩)
    refine ⟨_, _, rfl, vlit (by omega) (by decide), ?_⟩
    rw [vcl (x := nI j) rfl (by omega), show s_ed (S, O).fst j = sh (eo j) from e1]
    refine ⟨fun _ => ac_to dC ?_, fun h => absurd h hne⟩
    refine ⟨_, _, rfl, vlit (by omega) (by decide), ?_⟩
    rw [vcl (x := nI j) rfl (by omega)]
    exact ⟨rfl, rfl⟩
  · generalize hT : upd (s_ed S) j (-9) = T
    have M1 := am_isLine' (g := g) (S := s_ed' S T) (O := o_nx' (o_kn' (o_P' O PP) kn) nx) (nI j) hw.1 (by omega)
    rw [ln_t hj (by omega)] at M1
    refine acw gdX6_takes 40 rfl (ac_to M1 ⟨fun _ => ?_, fun h => absurd h n01⟩)
    refine ⟨_, _, rfl, vin e56 (by omega) (by decide), ?_⟩
    rw [vcl e56 (by omega)]
    refine ⟨fun _ => ac_to (dM _ _ rfl rfl rfl) ?_, fun h => absurd (hed.1.symm.trans h) hne⟩
    refine ⟨_, _, rfl, vin e56 (by omega) (by decide), ?_⟩
    rw [vcl e56 (by omega)]
    exact ⟨congrArg (fun z => some (Value.int z)) hed.1, rfl⟩
theorem pr_puts (l s : Int32) : Pr g mX5_puts mX6_puts [.int l, .int s] := by
  rintro ⟨S, O⟩ hI
  have hI0 := hI
  obtain ⟨hR, hP, i3, i4, i5⟩ := hI
  obtain ⟨PP, kn, nx, G, dC, dM, dI⟩ := deed (g := g) hR hP
  obtain ⟨eo, m, n, hS, hw⟩ := hR
  have h8 := hw.2.1
  have h6 := hw.2.2.2.1
  have C1 := ac_hasLine' (g := g) (S := S) (O := O) l hS.1
  have C2 := ac_hasShot' (g := g) (S := S) (O := O) s hS.2.1
  have M1 := am_isLine' (g := g) (S := S) (O := O) l hw.1 (by omega)
  have M2 := am_isShot' (g := g) (S := S) (O := O) s hw.2.2.1 (by omega)
  by_cases hl : l < 0 ∨ nI m ≤ l
  · rw [ln_f hl] at C1 M1
    refine ⟨-1, (S, O), (S, O), ?_, ?_, hI0⟩
    · exact acw gdX5_puts 40 rfl (ac_to C1 ⟨fun _ => ⟨rfl, rfl⟩, fun h => absurd rfl h⟩)
    · exact acw gdX6_puts 40 rfl (ac_to M1 ⟨fun _ => ⟨rfl, rfl⟩, fun h => absurd rfl h⟩)
  obtain ⟨j, hj, rfl⟩ : ∃ j : Nat, j < m ∧ l = nI j := by
    rcases ix l (n := m) (by omega) with h | h | h
    · exact absurd (Or.inl h) hl
    · exact absurd (Or.inr h) hl
    · exact h
  rw [ln_t hj (by omega)] at C1 M1
  by_cases hs : s < 0 ∨ nI n ≤ s
  · rw [ln_f hs] at C2 M2
    refine ⟨-1, (S, O), (S, O), ?_, ?_, hI0⟩
    · exact acw gdX5_puts 40 rfl (ac_to C1 ⟨fun h => absurd h n01, fun _ => ac_to C2 ⟨fun h => absurd rfl h, fun _ => ⟨rfl, rfl⟩⟩⟩)
    · exact acw gdX6_puts 40 rfl (ac_to M1 ⟨fun h => absurd h n01, fun _ => ac_to M2 ⟨fun h => absurd rfl h, fun _ => ⟨rfl, rfl⟩⟩⟩)
  obtain ⟨t, ht, rfl⟩ : ∃ t : Nat, t < n ∧ s = nI t := by
    rcases ix s (n := n) (by omega) with h | h | h
    · exact absurd (Or.inl h) hs
    · exact absurd (Or.inr h) hs
    · exact h
  rw [ln_t ht (by omega)] at C2 M2
  have hed := hw.2.2.2.2.2.2.1 j (by omega)
  have e1 : s_ed S j = sh (eo j) := (hS.2.2.2.2.2 j (by omega)).trans hed.1
  have e56 : 56 + nI j = nI (56 + j) := by simp only [nlit, nI_add]
  have C3 := ac_covers (g := g) (S := S) (O := O) (s := t) (l := j) (by omega)
  have M3 := am_covers (g := g) (S := S) (O := O) (s := t) (l := j) (by omega)
  rw [hS.cv ht] at C3
  by_cases hq : sh (eo j) = nI t
  · refine ⟨-2, (S, O), (S, O), ?_, ?_, hI0⟩
    · refine acw gdX5_puts 40 rfl (ac_to C1 ⟨fun h => absurd h n01, fun _ => ac_to C2 ⟨fun _ => ?_, fun h => absurd h n01⟩⟩)
      refine ⟨_, _, rfl, vlit (by omega) (by decide), ?_⟩
      rw [vcl rfl (by omega)]
      exact ⟨fun _ => ⟨rfl, rfl⟩, fun h => absurd (e1.trans hq) h⟩
    · refine acw gdX6_puts 40 rfl (ac_to M1 ⟨fun h => absurd h n01, fun _ => ac_to M2 ⟨fun _ => ?_, fun h => absurd h n01⟩⟩)
      refine ⟨_, _, rfl, vin e56 (by omega) (by decide), ?_⟩
      rw [vcl e56 (by omega)]
      exact ⟨fun _ => ⟨rfl, rfl⟩, fun h => absurd (hed.1.trans hq) h⟩
  by_cases hc : cvA (fcr (z_now (o_M O))) t j = false
  · rw [hc] at C3 M3
    refine ⟨-2, (S, O), (S, O), ?_, ?_, hI0⟩
    · refine acw gdX5_puts 40 rfl (ac_to C1 ⟨fun h => absurd h n01, fun _ => ac_to C2 ⟨fun _ => ?_, fun h => absurd h n01⟩⟩)
      refine ⟨_, _, rfl, vlit (by omega) (by decide), ?_⟩
      rw [vcl rfl (by omega)]
      exact ⟨fun h => absurd (e1.symm.trans h) hq, fun _ => ac_to C3 ⟨fun h => absurd rfl h, fun _ => ⟨rfl, rfl⟩⟩⟩
    · refine acw gdX6_puts 40 rfl (ac_to M1 ⟨fun h => absurd h n01, fun _ => ac_to M2 ⟨fun _ => ?_, fun h => absurd h n01⟩⟩)
      refine ⟨_, _, rfl, vin e56 (by omega) (by decide), ?_⟩
      rw [vcl e56 (by omega)]
      exact ⟨fun h => absurd (hed.1.symm.trans h) hq, fun _ => ac_to M3 ⟨fun h => absurd rfl h, fun _ => ⟨rfl, rfl⟩⟩⟩
  rw [Bool.not_eq_false] at hc
  rw [hc] at C3
  have hRn : Rw (s_ed' S (upd (s_ed S) j (nI t))) (upd (z_now (o_M O)) (56 + j) (nI t)) := Rw.edt hS hw hj (some t) (fun _ z => by cases z; exact ht)
  refine ⟨sh (eo j), (s_ed' S (upd (s_ed S) j (nI t)), o_nx' (o_kn' (o_P' O PP) kn) nx), (s_ed' S (upd (s_ed S) j (nI t)), o_M' (o_nx' (o_kn' (o_P' O PP) kn) nx) (z_now' (z_deeds' (z_past' (o_M O) G) kn) (upd (z_now (o_M O)) (56 + j) (nI t)))), ?_, ?_, ⟨hRn, dI _ rfl rfl rfl rfl rfl, i3, i4, i5⟩⟩
  · refine acw gdX5_puts 40 rfl (ac_to C1 ⟨fun h => absurd h n01, fun _ => ac_to C2 ⟨fun _ => ?_, fun h => absurd h n01⟩⟩)
    refine ⟨_, _, rfl, vlit (by omega) (by decide), ?_⟩
    rw [vcl (x := nI j) rfl (by omega)]
    refine ⟨fun h => absurd (e1.symm.trans h) hq, fun _ => ac_to C3 ⟨fun _ => ac_to dC ?_, fun h => absurd h n01⟩⟩
    refine ⟨_, _, rfl, vlit (by omega) (by decide), ?_⟩
    rw [vcl (x := nI j) rfl (by omega)]
    exact ⟨congrArg (fun z => some (Value.int z)) e1, rfl⟩
  · generalize hT : upd (s_ed S) j (nI t) = T
    have M1 := am_isLine' (g := g) (S := s_ed' S T) (O := o_nx' (o_kn' (o_P' O PP) kn) nx) (nI j) hw.1 (by omega)
    have M2 := am_isShot' (g := g) (S := s_ed' S T) (O := o_nx' (o_kn' (o_P' O PP) kn) nx) (nI t) hw.2.2.1 (by omega)
    have M3 := am_covers (g := g) (S := s_ed' S T) (O := o_nx' (o_kn' (o_P' O PP) kn) nx) (s := t) (l := j) (by omega)
    rw [ln_t hj (by omega)] at M1
    rw [ln_t ht (by omega)] at M2
    rw [show cvA (fcr (z_now (o_M (o_nx' (o_kn' (o_P' O PP) kn) nx)))) t j = true from hc] at M3
    refine acw gdX6_puts 40 rfl (ac_to M1 ⟨fun h => absurd h n01, fun _ => ac_to M2 ⟨fun _ => ?_, fun h => absurd h n01⟩⟩)
    refine ⟨_, _, rfl, vin e56 (by omega) (by decide), ?_⟩
    rw [vcl e56 (by omega)]
    refine ⟨fun h => absurd (hed.1.symm.trans h) hq, fun _ => ac_to M3 ⟨fun _ => ac_to (dM _ _ rfl rfl rfl) ?_, fun h => absurd h n01⟩⟩
    refine ⟨_, _, rfl, vin e56 (by omega) (by decide), ?_⟩
    rw [vcl e56 (by omega)]
    exact ⟨congrArg (fun z => some (Value.int z)) hed.1, rfl⟩
end PT
end
section
/-- a line's shot after a shot was struck -/
def stk (s : Nat) (o : Option Nat) : Option Nat := match o with
  | none => none
  | some t => if t = s then none else if s < t then some (t - 1) else some t
theorem m9le {s : Nat} (h : s ≤ 2000) : (-9 : Int32) ≤ nI s := by
  rw [Int32.le_iff_toInt_le, toI_lit h]
  have : (-9 : Int32).toInt = -9 := by decide
  omega
theorem upd_id {F : Fn} {k : Nat} {v : Int32} (h : F k = v) : upd F k v = F := by
  funext i
  by_cases hi : i = k
  · subst hi; rw [pk_us, h]
  · rw [pk_un hi]
theorem cpy_up {f : Fn} {a b k : Nat} (h : b < a) : upd (va_cpy f f a b k) (b + k) (va_cpy f f a b k (a + k)) = va_cpy f f a b (k + 1) := by
  rw [← cpy_step (k := k), pk_cpy_out (j := a + k) (by omega)]
theorem cnt_ext {p : Nat → Bool} {m : Nat} : ∀ j, (∀ l, m ≤ l → l < m + j → p l = false) → cnt p (m + j) = cnt p m := by
  intro j
  induction j with
  | zero => intro _; rfl
  | succ j ih =>
    intro h
    rw [← Nat.add_assoc, cnt_f (h (m + j) (by omega) (by omega))]
    exact ih (fun l h1 h2 => h l h1 (by omega))
section SK
variable {g : Glob} {S : Scn} {O : Oth}
theorem ds_step {s n k : Nat} {F : Fn} {Post : Option Value → AH → Prop} (hn : s_ns S = nI n) (h6 : n ≤ 6) (hk : k < 7 * (n - 1)) (K : AW g mX3_dropShot Post 0 0 5 [some (.ref 1), some (.int (nI s)), some (.int (nI (k + 1)))] [] (lay (s_fc' S (upd F k (F (k + 7))), O))) : AW g mX3_dropShot Post 0 0 5 [some (.ref 1), some (.int (nI s)), some (.int (nI k))] [] (lay (s_fc' S F, O)) := by
  obtain ⟨n, rfl⟩ : ∃ j, n = j + 1 := ⟨n - 1, by omega⟩
  have e1 : (nI (n + 1) - 1) * 7 = nI (7 * n) := by rw [nI_pred, nlit, pk_mul, Nat.mul_comm]
  have e2 : nI k + 7 = nI (k + 7) := by simp only [nlit, nI_add]
  refine lpw gdX3_dropShot 40 ⟨fun h => ?_, fun _ => ?_⟩
  · have h' : (s_ns S - 1) * 7 ≤ nI k := h
    rw [hn, e1] at h'
    exact absurd h' (nge (by omega) (by omega))
  · refine ⟨_, _, rfl, vin e2 (by omega) (by decide), ?_⟩
    refine ⟨_, _, rfl, vlit (by omega) (by decide), ?_⟩
    rw [vcl e2 (by omega), vcl (x := nI k) rfl (by omega)]
    exact awl (by rw [← nI_1]; rfl) K
theorem ds_exit {s n : Nat} {F : Fn} (hn : s_ns S = nI (n + 1)) (h6 : n + 1 ≤ 6) : AW g mX3_dropShot (fun r h' => r = none ∧ h' = lay (s_ns' (s_fc' S F) (nI n), O)) 0 0 5 [some (.ref 1), some (.int (nI s)), some (.int (nI (7 * n)))] [] (lay (s_fc' S F, O)) := by
  have e0 : nI (n + 1) - 1 = nI n := nI_pred n
  have e1 : (nI (n + 1) - 1) * 7 = nI (7 * n) := by rw [nI_pred, nlit, pk_mul, Nat.mul_comm]
  refine lpw gdX3_dropShot 40 ⟨fun _ => ⟨rfl, ?_⟩, fun h => absurd (show (s_ns S - 1) * 7 ≤ _ by rw [hn, e1]; exact nle (by omega) (by omega)) h⟩
  show List.set (lay _) 1 (.inr (3, [_, _, _, _, _, .int (s_ns S - 1)])) = _
  rw [hn, e0]
  rfl
theorem ac_dropShot {s n : Nat} (hn : s_ns S = nI (n + 1)) (h6 : n + 1 ≤ 6) (hs : s ≤ n) : ACe g mX3_dropShot [.ref 1, .int (nI s)] (lay (S, O)) none (lay (s_ns' (s_fc' S (va_cpy (s_fc S) (s_fc S) (7 * s + 7) (7 * s) (7 * (n - s)))) (nI n), O)) := by
  have e0 : lay (S, O) = lay (s_fc' S (va_cpy (s_fc S) (s_fc S) (7 * s + 7) (7 * s) 0), O) := congrArg (fun f => lay (s_fc' S f, O)) cpy_0.symm
  have key := dn (n := 7 * (n - s)) (P := fun c => AW g mX3_dropShot (fun r h' => r = none ∧ h' = lay (s_ns' (s_fc' S (va_cpy (s_fc S) (s_fc S) (7 * s + 7) (7 * s) (7 * (n - s)))) (nI n), O)) 0 0 5 [some (.ref 1), some (.int (nI s)), some (.int (nI (7 * s + c)))] [] (lay (s_fc' S (va_cpy (s_fc S) (s_fc S) (7 * s + 7) (7 * s) c), O))) ?_ (fun c hc ih => ?_) 0 (Nat.zero_le _)
  · rw [← e0] at key
    refine acw gdX3_dropShot 40 rfl (awl ?_ key)
    rw [show nI (7 * s + 0) = nI s * 7 by rw [Nat.add_zero, Nat.mul_comm, ← pk_mul]; rfl]
    rfl
  · rw [show 7 * s + 7 * (n - s) = 7 * n by omega]
    exact ds_exit hn h6
  · refine ds_step hn h6 (by omega) ?_
    rw [show 7 * s + c + 7 = 7 * s + 7 + c by omega, cpy_up (by omega)]
    exact ih
theorem ls_step {s k c m n : Nat} {F : Fn} {o : Option Nat} {Post : Option Value → AH → Prop} (hm : s_nl S = nI m) (h8 : m ≤ 8) (hk : k < m) (hs : s ≤ 6) (hF : F k = sh o) (ho : okO n o) (h6 : n ≤ 6) (K : AW g mX3_loseShotInEdit Post 0 0 4 [some (.ref 1), some (.int (nI s)), some (.int (nI (if o = some s then c + 1 else c))), some (.int (nI (k + 1)))] [] (lay (s_ed' S (upd F k (sh (stk s o))), O))) : AW g mX3_loseShotInEdit Post 0 0 4 [some (.ref 1), some (.int (nI s)), some (.int (nI c)), some (.int (nI k))] [] (lay (s_ed' S F, O)) := by
  refine lpw gdX3_loseShotInEdit 60 ⟨fun h => ?_, fun _ => ?_⟩
  · have h' : s_nl S ≤ nI k := h
    rw [hm] at h'
    exact absurd h' (nge (by omega) (by omega))
  refine ⟨_, _, rfl, vlit (by omega) (by decide), ?_⟩
  rw [vcl (x := nI k) rfl (by omega)]
  cases o with
  | none =>
    have e : stk s none = none := rfl
    rw [e, upd_id hF, if_neg (by simp)] at K
    refine ⟨fun _ => ?_, fun h => absurd ((show F k = nI s from h).symm.trans hF) (nI_ne9 (by omega))⟩
    refine ⟨_, _, rfl, vlit (by omega) (by decide), ?_⟩
    rw [vcl (x := nI k) rfl (by omega)]
    refine ⟨fun _ => awl (by rw [← nI_1]; rfl) K, fun h => absurd (show F k ≤ nI s by rw [hF]; exact m9le (by omega)) h⟩
  | some t =>
    have ht := ho t rfl
    by_cases h1 : t = s
    · subst h1
      have e : stk t (some t) = none := by simp [stk]
      rw [e, if_pos rfl] at K
      refine ⟨fun h => absurd (show F k = nI t from hF) h, fun _ => ?_⟩
      refine ⟨_, _, rfl, vlit (by omega) (by decide), ?_⟩
      rw [vcl (x := nI k) rfl (by omega)]
      exact awl (by rw [← nI_1, ← nI_1]; rfl) K
    · rw [if_neg (by simp [h1])] at K
      refine ⟨fun _ => ?_, fun h => absurd ((neqI (by omega) (by omega)).mp ((show F k = nI s from h).symm.trans hF)).symm h1⟩
      refine ⟨_, _, rfl, vlit (by omega) (by decide), ?_⟩
      rw [vcl (x := nI k) rfl (by omega)]
      by_cases h2 : s < t
      · have e : stk s (some t) = some (t - 1) := by simp [stk, h1, h2]
        rw [e] at K
        have e3 : F k - 1 = sh (some (t - 1)) := by
          rw [hF]
          obtain ⟨u, rfl⟩ : ∃ u, t = u + 1 := ⟨t - 1, by omega⟩
          exact nI_pred u
        refine ⟨fun h => ?_, fun _ => ?_⟩
        · have h' : F k ≤ nI s := h
          rw [hF] at h'
          exact absurd ((nleI (by omega) (by omega)).mp h') (by omega)
        refine ⟨_, _, rfl, vlit (by omega) (by decide), ?_⟩
        refine ⟨_, _, rfl, vlit (by omega) (by decide), ?_⟩
        rw [vcl (x := nI k) rfl (by omega)]
        rw [← e3] at K
        exact awl (by rw [← nI_1]; rfl) K
      · have e : stk s (some t) = some t := by simp [stk, h1, h2]
        rw [e, upd_id hF] at K
        refine ⟨fun _ => awl (by rw [← nI_1]; rfl) K, fun h => absurd (show F k ≤ nI s by rw [hF]; exact (nleI (by omega) (by omega)).mpr (by omega)) h⟩
theorem ac_loseShot {s m n : Nat} {eo : Nat → Option Nat} (hm : s_nl S = nI m) (h8 : m ≤ 8) (hs : s ≤ 6) (h6 : n ≤ 6) (hE : ∀ l, l < m → s_ed S l = sh (eo l) ∧ okO n (eo l)) : ACe g mX3_loseShotInEdit [.ref 1, .int (nI s)] (lay (S, O)) (some (.int (nI (cnt (fun l => decide (eo l = some s)) m)))) (lay (s_ed' S (va_cpy (fun l => sh (stk s (eo l))) (s_ed S) 0 0 m), O)) := by
  have e0 : lay (S, O) = lay (s_ed' S (va_cpy (fun l => sh (stk s (eo l))) (s_ed S) 0 0 0), O) := congrArg (fun f => lay (s_ed' S f, O)) cpy_0.symm
  have key := dn (n := m) (P := fun c => AW g mX3_loseShotInEdit (fun r h' => r = some (.int (nI (cnt (fun l => decide (eo l = some s)) m))) ∧ h' = lay (s_ed' S (va_cpy (fun l => sh (stk s (eo l))) (s_ed S) 0 0 m), O)) 0 0 4 [some (.ref 1), some (.int (nI s)), some (.int (nI (cnt (fun l => decide (eo l = some s)) c))), some (.int (nI c))] [] (lay (s_ed' S (va_cpy (fun l => sh (stk s (eo l))) (s_ed S) 0 0 c), O))) ?_ (fun c hc ih => ?_) 0 (Nat.zero_le _)
  · rw [← e0] at key
    exact acw gdX3_loseShotInEdit 40 rfl key
  · refine lpw gdX3_loseShotInEdit 60 ⟨fun _ => ⟨rfl, rfl⟩, fun h => absurd (show s_nl S ≤ _ by rw [hm]; exact nle (by omega) (by omega)) h⟩
  · refine ls_step (o := eo c) (n := n) hm h8 hc hs ?_ (hE c hc).2 h6 ?_
    · rw [pk_cpy_out (by omega)]
      exact (hE c hc).1
    · have e1 := cpy_step (f := fun l => sh (stk s (eo l))) (t := s_ed S) (i := 0) (j := 0) (k := c)
      rw [Nat.zero_add] at e1
      rw [e1]
      have e2 : (if eo c = some s then cnt (fun l => decide (eo l = some s)) c + 1 else cnt (fun l => decide (eo l = some s)) c) = cnt (fun l => decide (eo l = some s)) (c + 1) := by
        by_cases h : eo c = some s
        · rw [if_pos h, cnt_t (by simp [h])]
        · rw [if_neg h, cnt_f (by simp [h])]
      rw [e2]
      exact ih
theorem mk_step {s k : Nat} {F : Fn} {Post : Option Value → AH → Prop} (hk : k + 7 < 56) (K : AW g mX6_strikes Post 0 0 22 [some (.ref 94), some (.int (nI s)), some (.int (nI (k + 1))), none, none] [] (lay (S, o_M' O (z_now' (o_M O) (upd F k (F (k + 7))))))) : AW g mX6_strikes Post 0 0 22 [some (.ref 94), some (.int (nI s)), some (.int (nI k)), none, none] [] (lay (S, o_M' O (z_now' (o_M O) F))) := by
  have e2 : nI k + 7 = nI (k + 7) := by simp only [nlit, nI_add]
  refine lpw gdX6_strikes 40 ⟨fun h => ?_, fun _ => ?_⟩
  · rw [e2] at h
    exact absurd h (nge (n := 56) (by omega) (by omega))
  · refine ⟨_, _, rfl, vin e2 (by omega) (by decide), ?_⟩
    refine ⟨_, _, rfl, vlit (by omega) (by decide), ?_⟩
    rw [vcl e2 (by omega), vcl (x := nI k) rfl (by omega)]
    exact awl (by rw [← nI_1]; rfl) K
theorem mk_mid {s n : Nat} {F : Fn} {Post : Option Value → AH → Prop} (hF : F 13 = nI (n + 1)) (K : AW g mX6_strikes Post 0 0 67 [some (.ref 94), some (.int (nI s)), some (.int (nI 0)), some (.int (nI 0)), none] [] (lay (S, o_M' O (z_now' (o_M O) (upd F 13 (nI n)))))) : AW g mX6_strikes Post 0 0 22 [some (.ref 94), some (.int (nI s)), some (.int (nI 49)), none, none] [] (lay (S, o_M' O (z_now' (o_M O) F))) := by
  have e0 : F 13 - 1 = nI n := by rw [hF]; exact nI_pred n
  refine lpw gdX6_strikes 40 ⟨fun _ => ?_, fun h => absurd (by decide) h⟩
  refine ⟨_, _, rfl, vlit (j := 13) (by decide) (by decide), ?_⟩
  refine ⟨_, _, rfl, vlit (j := 13) (by decide) (by decide), ?_⟩
  rw [← e0] at K
  exact K
theorem mk_132 {s l : Nat} {x w y : Int32} {F : Fn} {Post : Option Value → AH → Prop} (hl : l < 8) (K : AW g mX6_strikes Post 0 0 67 [some (.ref 94), some (.int (nI s)), some (.int y), some (.int (nI (l + 1))), none] [] (lay (S, o_M' O (z_now' (o_M O) (upd F (56 + l) x))))) : AW g mX6_strikes Post 0 0 132 [some (.ref 94), some (.int (nI s)), some (.int y), some (.int (nI l)), some (.int w)] [.int x, .int (56 + nI l), .ref 95] (lay (S, o_M' O (z_now' (o_M O) F))) := by
  have e1 : 56 + nI l = nI (56 + l) := by simp only [nlit, nI_add]
  refine lpw gdX6_strikes 40 ?_
  refine ⟨_, _, rfl, vin e1 (by omega) (by decide), ?_⟩
  rw [vcl e1 (by omega)]
  refine awf ?_ K
  refine ⟨rfl, rfl, rfl, ?_, trivial⟩
  rw [← nI_1]
theorem mk_96 {s l c n : Nat} {o : Option Nat} {v : Int32} {F : Fn} {Post : Option Value → AH → Prop} (hl : l < 8) (hs : s ≤ 6) (ho : okO n o) (h6 : n ≤ 6) {d : Nat} (hv : nI c + v = nI d) (K : AW g mX6_strikes Post 0 0 67 [some (.ref 94), some (.int (nI s)), some (.int (nI d)), some (.int (nI (l + 1))), none] [] (lay (S, o_M' O (z_now' (o_M O) (upd F (56 + l) (sh (stk s o))))))) : AW g mX6_strikes Post 0 0 96 [some (.ref 94), some (.int (nI s)), some (.int (nI c)), some (.int (nI l)), some (.int (sh o))] [.int v, .int (nI c)] (lay (S, o_M' O (z_now' (o_M O) F))) := by
  rw [← hv] at K
  refine lpw gdX6_strikes 40 ?_
  cases o with
  | none =>
    refine ⟨fun _ => ⟨fun _ => mk_132 hl K, fun h => absurd (m9le (by omega)) h⟩, fun h => absurd h.symm (nI_ne9 (by omega))⟩
  | some t =>
    have ht := ho t rfl
    refine ⟨fun h => ?_, fun h => ?_⟩
    · have h1 : ¬ t = s := fun z => h (congrArg nI z)
      refine ⟨fun h2 => ?_, fun h2 => ?_⟩
      · have h2 := (nleI (by omega) (by omega)).mp h2
        rw [show stk s (some t) = some t by simp [stk, h1]; omega] at K
        exact mk_132 hl K
      · have h2 : ¬ t ≤ s := fun z => h2 ((nleI (by omega) (by omega)).mpr z)
        rw [show stk s (some t) = some (t - 1) by simp [stk, h1]; omega] at K
        obtain ⟨u, rfl⟩ : ∃ u, t = u + 1 := ⟨t - 1, by omega⟩
        show AW _ _ _ _ _ _ _ [.int (nI (u + 1) - 1), _, _] _
        rw [nI_pred]
        exact mk_132 hl K
    · have h1 : t = s := (neqI (by omega) (by omega)).mp h
      rw [show stk s (some t) = none by simp [stk, h1]] at K
      exact mk_132 hl K
theorem mk_67 {s l c n : Nat} {o : Option Nat} {F : Fn} {Post : Option Value → AH → Prop} (hl : l < 8) (hs : s ≤ 6) (hF : F (56 + l) = sh o) (ho : okO n o) (h6 : n ≤ 6) (K : AW g mX6_strikes Post 0 0 67 [some (.ref 94), some (.int (nI s)), some (.int (nI (if o = some s then c + 1 else c))), some (.int (nI (l + 1))), none] [] (lay (S, o_M' O (z_now' (o_M O) (upd F (56 + l) (sh (stk s o))))))) : AW g mX6_strikes Post 0 0 67 [some (.ref 94), some (.int (nI s)), some (.int (nI c)), some (.int (nI l)), none] [] (lay (S, o_M' O (z_now' (o_M O) F))) := by
  have e1 : 56 + nI l = nI (56 + l) := by simp only [nlit, nI_add]
  refine lpw gdX6_strikes 40 ⟨fun h => absurd h (nge (n := 8) (by omega) (by omega)), fun _ => ?_⟩
  refine ⟨_, _, rfl, vin e1 (by omega) (by decide), ?_⟩
  rw [vcl e1 (by omega)]
  show (_ → _) ∧ (_ → _)
  rw [show z_now (o_M (S, o_M' O (z_now' (o_M O) F)).snd) (56 + l) = sh o from hF]
  refine ⟨fun h => mk_96 hl hs ho h6 (v := 0) (d := c) ?_ ?_, fun h => mk_96 hl hs ho h6 (v := 1) (d := c + 1) (nI_1 c) ?_⟩
  · rw [nzero, nI_add, Nat.add_zero]
  · rwa [if_neg] at K
    intro z
    exact h (by rw [z]; rfl)
  · rwa [if_pos] at K
    cases o with
    | none => exact absurd h.symm (nI_ne9 (by omega))
    | some t => exact congrArg some ((neqI (by have := ho t rfl; omega) (by omega)).mp h)
theorem am_strikes {s n : Nat} {eo : Nat → Option Nat} {G : Fn} {kn : Int32} (h6 : n + 1 ≤ 6) (hs : s ≤ n) (hn : z_now (o_M O) 13 = nI (n + 1)) (hE : ∀ l, l < 8 → z_now (o_M O) (56 + l) = sh (eo l) ∧ okO (n + 1) (eo l)) (dM : ACe g mX6_note [.ref 94] (lay (S, O)) none (lay (S, o_M' O (z_deeds' (z_past' (o_M O) G) kn)))) : ACe g mX6_strikes [.ref 94, .int (nI s)] (lay (S, O)) (some (.int (nI (cnt (fun l => decide (eo l = some s)) 8)))) (lay (S, o_M' O (z_now' (z_deeds' (z_past' (o_M O) G) kn) (va_cpy (fun l => sh (stk s (eo l))) (upd (va_cpy (z_now (o_M O)) (z_now (o_M O)) (14 + 7 * s + 7) (14 + 7 * s) (35 - 7 * s)) 13 (nI n)) 0 56 8)))) := by
  have M1 := am_isShot' (g := g) (S := S) (O := O) (nI s) hn (by omega)
  rw [ln_t (by omega) (by omega)] at M1
  refine acw gdX6_strikes 40 rfl (ac_to M1 ⟨fun _ => ac_to dM ?_, fun h => absurd h n01⟩)
  have A1 : ∀ (R : Fn), R = upd (va_cpy (z_now (o_M O)) (z_now (o_M O)) (14 + 7 * s + 7) (14 + 7 * s) (35 - 7 * s)) 13 (nI n) → AW g mX6_strikes (fun r h' => r = some (.int (nI (cnt (fun l => decide (eo l = some s)) 8))) ∧ h' = lay (S, o_M' O (z_now' (z_deeds' (z_past' (o_M O) G) kn) (va_cpy (fun l => sh (stk s (eo l))) R 0 56 8)))) 0 0 67 [some (.ref 94), some (.int (nI s)), some (.int (nI 0)), some (.int (nI 0)), none] [] (lay (S, o_M' O (z_now' (z_deeds' (z_past' (o_M O) G) kn) R))) := by
    intro R hR
    have hR2 : ∀ l, l < 8 → R (56 + l) = sh (eo l) := fun l hl => by
      rw [hR, pk_un (by omega), pk_cpy_out (by omega)]
      exact (hE l hl).1
    clear hR
    have e0 : lay (S, o_M' O (z_now' (z_deeds' (z_past' (o_M O) G) kn) R)) = lay (S, o_M' O (z_now' (z_deeds' (z_past' (o_M O) G) kn) (va_cpy (fun l => sh (stk s (eo l))) R 0 56 0))) := congrArg (fun f => lay (S, o_M' O (z_now' (z_deeds' (z_past' (o_M O) G) kn) f))) cpy_0.symm
    have key := dn (n := 8) (P := fun c => AW g mX6_strikes (fun r h' => r = some (.int (nI (cnt (fun l => decide (eo l = some s)) 8))) ∧ h' = lay (S, o_M' O (z_now' (z_deeds' (z_past' (o_M O) G) kn) (va_cpy (fun l => sh (stk s (eo l))) R 0 56 8)))) 0 0 67 [some (.ref 94), some (.int (nI s)), some (.int (nI (cnt (fun l => decide (eo l = some s)) c))), some (.int (nI c)), none] [] (lay (S, o_M' O (z_now' (z_deeds' (z_past' (o_M O) G) kn) (va_cpy (fun l => sh (stk s (eo l))) R 0 56 c))))) ?_ (fun c hc ih => ?_) 0 (Nat.zero_le _)
    · rw [e0]
      exact key
    · exact lpw gdX6_strikes 40 ⟨fun _ => ⟨rfl, rfl⟩, fun h => absurd (by decide) h⟩
    · refine mk_67 (S := S) (O := o_M' O (z_deeds' (z_past' (o_M O) G) kn)) (o := eo c) (n := n + 1) hc (by omega) ?_ (hE c hc).2 h6 ?_
      · rw [pk_cpy_out (by omega)]
        exact hR2 c hc
      · have e1 := cpy_step (f := fun l => sh (stk s (eo l))) (t := R) (i := 0) (j := 56) (k := c)
        rw [Nat.zero_add] at e1
        rw [e1]
        have e2 : (if eo c = some s then cnt (fun l => decide (eo l = some s)) c + 1 else cnt (fun l => decide (eo l = some s)) c) = cnt (fun l => decide (eo l = some s)) (c + 1) := by
          by_cases h : eo c = some s
          · rw [if_pos h, cnt_t (by simp [h])]
          · rw [if_neg h, cnt_f (by simp [h])]
        rw [e2]
        exact ih
  have A2 := A1 _ rfl
  generalize hV : va_cpy (fun l => sh (stk s (eo l))) (upd (va_cpy (z_now (o_M O)) (z_now (o_M O)) (14 + 7 * s + 7) (14 + 7 * s) (35 - 7 * s)) 13 (nI n)) 0 56 8 = V at A2 ⊢
  clear A1 hV
  have e0 : lay (S, o_M' O (z_deeds' (z_past' (o_M O) G) kn)) = lay (S, o_M' O (z_now' (z_deeds' (z_past' (o_M O) G) kn) (va_cpy (z_now (o_M O)) (z_now (o_M O)) (14 + 7 * s + 7) (14 + 7 * s) 0))) := congrArg (fun f => lay (S, o_M' O (z_now' (z_deeds' (z_past' (o_M O) G) kn) f))) cpy_0.symm
  have key := dn (n := 35 - 7 * s) (P := fun c => AW g mX6_strikes (fun r h' => r = some (.int (nI (cnt (fun l => decide (eo l = some s)) 8))) ∧ h' = lay (S, o_M' O (z_now' (z_deeds' (z_past' (o_M O) G) kn) V))) 0 0 22 [some (.ref 94), some (.int (nI s)), some (.int (nI (14 + 7 * s + c))), none, none] [] (lay (S, o_M' O (z_now' (z_deeds' (z_past' (o_M O) G) kn) (va_cpy (z_now (o_M O)) (z_now (o_M O)) (14 + 7 * s + 7) (14 + 7 * s) c))))) ?_ (fun c hc ih => ?_) 0 (Nat.zero_le _)
  · rw [← e0] at key
    refine awl ?_ key
    rw [show nI (14 + 7 * s + 0) = 14 + 7 * nI s by simp only [nlit, pk_mul, nI_add]; rfl]
    rfl
  · rw [show 14 + 7 * s + (35 - 7 * s) = 49 by omega]
    refine mk_mid (S := S) (O := o_M' O (z_deeds' (z_past' (o_M O) G) kn)) ?_ A2
    rw [pk_cpy_out (by omega)]
    exact hn
  · refine mk_step (S := S) (O := o_M' O (z_deeds' (z_past' (o_M O) G) kn)) (by omega) ?_
    rw [show 14 + 7 * s + c + 7 = 14 + 7 * s + 7 + c by omega, cpy_up (by omega)]
    exact ih
theorem Rw_strk {r : Fn} {eo : Nat → Option Nat} {m n s : Nat} (hS : ScC S r m (n + 1)) (hw : WfR r eo m (n + 1)) (hs : s ≤ n) : Rw (s_ed' (s_ns' (s_fc' S (va_cpy (s_fc S) (s_fc S) (7 * s + 7) (7 * s) (7 * (n - s)))) (nI n)) (va_cpy (fun l => sh (stk s (eo l))) (s_ed S) 0 0 m)) (va_cpy (fun l => sh (stk s (eo l))) (upd (va_cpy r r (14 + 7 * s + 7) (14 + 7 * s) (35 - 7 * s)) 13 (nI n)) 0 56 8) := by
  have h8 := hw.2.1
  have h6 := hw.2.2.2.1
  have hst : ∀ o, okO (n + 1) o → okO n (stk s o) := by
    intro o ho t ht
    cases o with
    | none => cases ht
    | some u =>
      have := ho u rfl
      simp only [stk] at ht
      split at ht
      · cases ht
      · split at ht
        · cases ht; omega
        · cases ht; omega
  have hlo : ∀ i, i < 13 → va_cpy (fun l => sh (stk s (eo l))) (upd (va_cpy r r (14 + 7 * s + 7) (14 + 7 * s) (35 - 7 * s)) 13 (nI n)) 0 56 8 i = r i := fun i hi => by
    rw [pk_cpy_out (by omega), pk_un (by omega), pk_cpy_out (by omega)]
  have hmi : ∀ i, i < 7 * n → va_cpy (fun l => sh (stk s (eo l))) (upd (va_cpy r r (14 + 7 * s + 7) (14 + 7 * s) (35 - 7 * s)) 13 (nI n)) 0 56 8 (14 + i) = r (14 + (if i < 7 * s then i else i + 7)) := fun i hi => by
    rw [pk_cpy_out (by omega), pk_un (by omega)]
    by_cases h : i < 7 * s
    · rw [if_pos h, pk_cpy_out (by omega)]
    · rw [if_neg h, pk_cpy_in (by omega) (by omega)]
      exact congrArg _ (by omega)
  have hhi : ∀ l, l < 8 → va_cpy (fun l => sh (stk s (eo l))) (upd (va_cpy r r (14 + 7 * s + 7) (14 + 7 * s) (35 - 7 * s)) 13 (nI n)) 0 56 8 (56 + l) = sh (stk s (eo l)) := fun l hl => by
    rw [pk_cpy_in (by omega) (by omega)]
    show sh (stk s (eo (0 + (56 + l - 56)))) = _
    rw [show 0 + (56 + l - 56) = l by omega]
  have h13 : va_cpy (fun l => sh (stk s (eo l))) (upd (va_cpy r r (14 + 7 * s + 7) (14 + 7 * s) (35 - 7 * s)) 13 (nI n)) 0 56 8 13 = nI n := by
    rw [pk_cpy_out (by omega), pk_us]
  generalize va_cpy (fun l => sh (stk s (eo l))) (upd (va_cpy r r (14 + 7 * s + 7) (14 + 7 * s) (35 - 7 * s)) 13 (nI n)) 0 56 8 = N at *
  refine ⟨fun l => stk s (eo l), m, n, ⟨hS.1, rfl, fun i hi => ?_, fun i hi => ?_, fun i hi => ?_, fun i hi => ?_⟩, ⟨?_, h8, h13, by omega, fun i hi => ?_, fun t ht k hk => ?_, fun i hi => ⟨hhi i hi, hst _ (hw.2.2.2.2.2.2.1 i hi).2⟩, fun i hi => ?_⟩⟩
  · rw [hlo i (by omega)]; exact hS.2.2.1 i hi
  · rw [hlo _ (by omega)]; exact hS.2.2.2.1 i hi
  · show va_cpy (s_fc S) (s_fc S) (7 * s + 7) (7 * s) (7 * (n - s)) i = _
    rw [hmi i hi]
    by_cases h : i < 7 * s
    · rw [if_pos h, pk_cpy_out (by omega)]
      exact hS.2.2.2.2.1 i (by omega)
    · rw [if_neg h, pk_cpy_in (by omega) (by omega), show 7 * s + 7 + (i - 7 * s) = i + 7 by omega]
      exact hS.2.2.2.2.1 (i + 7) (by omega)
  · show va_cpy (fun l => sh (stk s (eo l))) (s_ed S) 0 0 m i = _
    rw [hhi i hi]
    by_cases h : i < m
    · rw [pk_cpy_in (by omega) (by omega)]
      show sh (stk s (eo (0 + (i - 0)))) = _
      rw [show 0 + (i - 0) = i by omega]
    · rw [pk_cpy_out (by omega), hS.2.2.2.2.2 i hi, (hw.2.2.2.2.2.2.1 i hi).1, hw.2.2.2.2.2.2.2 i (by omega)]
      rfl
  · rw [hlo 4 (by decide)]; exact hw.1
  · rw [hlo i (by omega)]; exact hw.2.2.2.2.1 i hi
  · show ∃ v : Nat, v ≤ 9 ∧ N (14 + (7 * t + k)) = nI v
    rw [hmi _ (by omega)]
    by_cases h : 7 * t + k < 7 * s
    · rw [if_pos h]; exact hw.2.2.2.2.2.1 t (by omega) k hk
    · rw [if_neg h]
      have := hw.2.2.2.2.2.1 (t + 1) (by omega) k hk
      rw [show 7 * t + k + 7 = 7 * (t + 1) + k by omega]
      exact this
  · show stk s (eo i) = none
    rw [hw.2.2.2.2.2.2.2 i hi]
    rfl
theorem pr_strikes (x : Int32) : Pr g mX5_strikes mX6_strikes [.int x] := by
  rintro ⟨S, O⟩ hI
  have hI0 := hI
  obtain ⟨hR, hP, i3, i4, i5⟩ := hI
  obtain ⟨PP, kn, nx, G, dC, dM, dI⟩ := deed (g := g) hR hP
  obtain ⟨eo, m, n, hS, hw⟩ := hR
  have h8 := hw.2.1
  have h6 := hw.2.2.2.1
  have C1 := ac_hasShot' (g := g) (S := S) (O := O) x hS.2.1
  by_cases hx : x < 0 ∨ nI n ≤ x
  · have M1 := am_isShot' (g := g) (S := S) (O := O) x hw.2.2.1 (by omega)
    rw [ln_f hx] at C1 M1
    refine ⟨-1, (S, O), (S, O), ?_, ?_, hI0⟩
    · exact acw gdX5_strikes 40 rfl (ac_to C1 ⟨fun h => absurd rfl h, fun _ => ⟨rfl, rfl⟩⟩)
    · exact acw gdX6_strikes 40 rfl (ac_to M1 ⟨fun h => absurd rfl h, fun _ => ⟨rfl, rfl⟩⟩)
  obtain ⟨s, hs, rfl⟩ : ∃ t : Nat, t < n ∧ x = nI t := by
    rcases ix x (n := n) (by omega) with h | h | h
    · exact absurd (Or.inl h) hx
    · exact absurd (Or.inr h) hx
    · exact h
  rw [ln_t hs (by omega)] at C1
  obtain ⟨n, rfl⟩ : ∃ j, n = j + 1 := ⟨n - 1, by omega⟩
  have hRn := Rw_strk (s := s) hS hw (by omega)
  have C2 := ac_dropShot (g := g) (S := S) (O := o_nx' (o_kn' (o_P' O PP) kn) nx) (s := s) hS.2.1 h6 (by omega)
  generalize va_cpy (s_fc S) (s_fc S) (7 * s + 7) (7 * s) (7 * (n - s)) = F at hRn C2
  have C3 := ac_loseShot (g := g) (S := s_ns' (s_fc' S F) (nI n)) (O := o_nx' (o_kn' (o_P' O PP) kn) nx) (s := s) (n := n + 1) (eo := eo) hS.1 h8 (by omega) h6 (fun l hl => ⟨(hS.2.2.2.2.2 l (by omega)).trans (hw.2.2.2.2.2.2.1 l (by omega)).1, (hw.2.2.2.2.2.2.1 l (by omega)).2⟩)
  have ec : cnt (fun l => decide (eo l = some s)) 8 = cnt (fun l => decide (eo l = some s)) m := by
    rw [show 8 = m + (8 - m) by omega]
    exact cnt_ext _ (fun l h1 _ => by rw [hw.2.2.2.2.2.2.2 l h1]; rfl)
  replace C3 : ACe g mX3_loseShotInEdit [.ref 1, .int (nI s)] (lay (s_ns' (s_fc' S F) (nI n), o_nx' (o_kn' (o_P' O PP) kn) nx)) (some (.int (nI (cnt (fun l => decide (eo l = some s)) m)))) (lay (s_ed' (s_ns' (s_fc' S F) (nI n)) (va_cpy (fun l => sh (stk s (eo l))) (s_ed S) 0 0 m), o_nx' (o_kn' (o_P' O PP) kn) nx)) := C3
  generalize va_cpy (fun l => sh (stk s (eo l))) (s_ed S) 0 0 m = E at hRn C3
  have M3 := am_strikes (g := g) (S := s_ed' (s_ns' (s_fc' S F) (nI n)) E) (O := o_nx' (o_kn' (o_P' O PP) kn) nx) (s := s) (eo := eo) h6 (by omega) hw.2.2.1 (fun l hl => hw.2.2.2.2.2.2.1 l hl) (dM _ _ rfl rfl rfl)
  rw [ec] at M3
  replace M3 : ACe g mX6_strikes [.ref 94, .int (nI s)] (lay (s_ed' (s_ns' (s_fc' S F) (nI n)) E, o_nx' (o_kn' (o_P' O PP) kn) nx)) (some (.int (nI (cnt (fun l => decide (eo l = some s)) m)))) (lay (s_ed' (s_ns' (s_fc' S F) (nI n)) E, o_M' (o_nx' (o_kn' (o_P' O PP) kn) nx) (z_now' (z_deeds' (z_past' (o_M O) G) kn) (va_cpy (fun l => sh (stk s (eo l))) (upd (va_cpy (z_now (o_M O)) (z_now (o_M O)) (14 + 7 * s + 7) (14 + 7 * s) (35 - 7 * s)) 13 (nI n)) 0 56 8)))) := M3
  generalize va_cpy (fun l => sh (stk s (eo l))) (upd (va_cpy (z_now (o_M O)) (z_now (o_M O)) (14 + 7 * s + 7) (14 + 7 * s) (35 - 7 * s)) 13 (nI n)) 0 56 8 = N at hRn M3
  refine ⟨_, _, _, ?_, M3, ⟨hRn, dI _ rfl rfl rfl rfl rfl, i3, i4, i5⟩⟩
  exact acw gdX5_strikes 40 rfl (ac_to C1 ⟨fun _ => ac_to dC (ac_to C2 (ac_to C3 ⟨rfl, rfl⟩)), fun h => absurd h n01⟩)
end SK
end
section
/-! ===== the fewest cuts, in numbers ===== -/
def mnF (p : Nat → Bool) (c : Nat → Nat) (X : Nat) : Nat → Nat
  | 0 => X
  | t + 1 => if p t && decide (c t < mnF p c X t) then c t else mnF p c X t
def amF (p : Nat → Bool) (c : Nat → Nat) (X : Nat) : Nat → Option Nat
  | 0 => none
  | t + 1 => if p t && decide (c t < mnF p c X t) then some t else amF p c X t
theorem mn_spec (p : Nat → Bool) (c : Nat → Nat) (X : Nat) : ∀ n, (mnF p c X n = X ∧ amF p c X n = none ∧ ∀ t, t < n → p t = true → X ≤ c t) ∨ (∃ t, t < n ∧ p t = true ∧ c t < X ∧ mnF p c X n = c t ∧ amF p c X n = some t ∧ (∀ v, v < t → p v = true → c t < c v) ∧ ∀ v, v < n → p v = true → c t ≤ c v) := by
  intro n
  induction n with
  | zero => exact Or.inl ⟨rfl, rfl, fun t h => absurd h (by omega)⟩
  | succ n ih =>
    by_cases h : (p n && decide (c n < mnF p c X n)) = true
    · have e1 : mnF p c X (n + 1) = c n := if_pos h
      have e2 : amF p c X (n + 1) = some n := if_pos h
      rw [Bool.and_eq_true, decide_eq_true_eq] at h
      right
      rcases ih with ⟨z1, z2, z3⟩ | ⟨t, z1, z2, z3, z4, z5, z6, z7⟩
      · refine ⟨n, by omega, h.1, by omega, e1, e2, fun v hv hp => ?_, fun v hv hp => ?_⟩
        · have := z3 v hv hp; omega
        · by_cases hvn : v = n
          · subst hvn; exact Nat.le_refl _
          · have := z3 v (by omega) hp; omega
      · refine ⟨n, by omega, h.1, by omega, e1, e2, fun v hv hp => ?_, fun v hv hp => ?_⟩
        · have := z7 v hv hp; omega
        · by_cases hvn : v = n
          · subst hvn; exact Nat.le_refl _
          · have := z7 v (by omega) hp; omega
    · have e1 : mnF p c X (n + 1) = mnF p c X n := if_neg h
      have e2 : amF p c X (n + 1) = amF p c X n := if_neg h
      rw [Bool.and_eq_true, decide_eq_true_eq] at h
      rcases ih with ⟨z1, z2, z3⟩ | ⟨t, z1, z2, z3, z4, z5, z6, z7⟩
      · refine Or.inl ⟨e1.trans z1, e2.trans z2, fun v hv hp => ?_⟩
        by_cases hvn : v = n
        · subst hvn
          by_cases h2 : c v < X
          · exact absurd ⟨hp, by omega⟩ h
          · omega
        · exact z3 v (by omega) hp
      · refine Or.inr ⟨t, by omega, z2, z3, e1.trans z4, e2.trans z5, z6, fun v hv hp => ?_⟩
        by_cases hvn : v = n
        · subst hvn
          by_cases h2 : c v < c t
          · exact absurd ⟨hp, by omega⟩ h
          · omega
        · exact z7 v (by omega) hp
/-- cuts from a line on, by the shot before -/
def cF (b : Option Nat) (t c : Nat) : Nat := min ((if b = none ∨ b = some t then 0 else 1) + c) 100
section PL
variable (n m u : Nat) (cv : Nat → Nat → Bool) (mf : Nat → Nat → Nat → Bool)
def dC : Nat → Nat → Nat → Nat
  | 0, _, _ => 0
  | k + 1, l, s => mnF (fun t => (mf l s t && cv (l + 1) t) && u.testBit t) (fun t => cF (some s) t (dC k (l + 1) t)) 100 n
def mC : Nat → Nat → Nat → Nat
  | 0, l, s => if u.testBit s && cv l s then 0 else 1000
  | k + 1, l, s => if u.testBit s && cv l s then mnF (fun t => mf l s t) (fun t => mC k (l + 1) t + (if s = t then 0 else 1)) 1000 6 else 1000
def tr : Nat → Option Nat
  | 0 => amF (fun t => cv 0 t && u.testBit t) (fun t => cF none t (dC n u cv mf (m - 1) 0 t)) 100 n
  | l + 1 => match tr l with
    | none => none
    | some s => amF (fun t => (mf l s t && cv (l + 1) t) && u.testBit t) (fun t => cF (some s) t (dC n u cv mf (m - 1 - (l + 1)) (l + 1) t)) 100 n
def trK : Nat := match tr n m u cv mf 0 with
  | none => 100
  | some s => cF none s (dC n u cv mf (m - 1) 0 s)
/-- the shots behind those of R -/
def orU (R l : Nat) : Nat → Nat
  | 0 => 0
  | s + 1 => if R.testBit s then orU R l s ||| msk (fun t => mf l s t && cv (l + 1) t) n else orU R l s
def rch : Nat → Nat
  | 0 => msk (cv 0) n &&& u
  | l + 1 => orU n cv mf (rch l) l n &&& u
def hasU : Bool := decide (m = 0) || !decide (rch n u cv mf (m - 1) = 0)
def wC : Nat := if m = 0 then 0 else mnF (fun _ => true) (fun s => mC u cv mf (m - 1) 0 s) 1000 6
end PL
theorem tb_msk (p : Nat → Bool) (s : Nat) : ∀ n, (msk p n).testBit s = (decide (s < n) && p s) := by
  intro n
  induction n with
  | zero => simp [msk]
  | succ n ih =>
    have hl := msk_lt p n
    unfold msk
    by_cases hs : s = n
    · subst hs
      have h0 : (msk p s).testBit s = false := Nat.testBit_lt_two_pow hl
      split
      · rename_i hp
        rw [Nat.add_comm, Nat.testBit_two_pow_add_eq, h0, hp]
        simp
      · rename_i hp
        rw [h0]
        simp at hp
        simp [hp]
    · split
      · rename_i hp
        have e : msk p n + 2 ^ n = 2 ^ n * 1 ||| msk p n := by
          rw [← Nat.two_pow_add_eq_or_of_lt hl]; omega
        rw [e, Nat.testBit_or, ih, Nat.mul_one, Nat.testBit_two_pow]
        have : decide (n = s) = false := by simp; omega
        rw [this, Bool.false_or]
        congr 1
        simp; omega
      · rw [ih]
        congr 1
        simp; omega
theorem cF_some {s t c : Nat} : cF (some s) t c = min ((if s = t then 0 else 1) + c) 100 := by
  unfold cF
  by_cases h : s = t <;> simp [h]
theorem cF_none {t c : Nat} : cF none t c = min c 100 := by
  unfold cF
  simp
section PM
variable {n m u : Nat} {cv : Nat → Nat → Bool} {mf : Nat → Nat → Nat → Bool}
theorem dC_b : ∀ k l s, k < 90 → dC n u cv mf k l s ≤ k ∨ dC n u cv mf k l s = 100 := by
  intro k
  induction k with
  | zero => intro l s _; exact Or.inl (Nat.le_refl 0)
  | succ k ih =>
    intro l s hk
    unfold dC
    rcases mn_spec (fun t => (mf l s t && cv (l + 1) t) && u.testBit t) (fun t => cF (some s) t (dC n u cv mf k (l + 1) t)) 100 n with ⟨z1, -, -⟩ | ⟨t, -, -, z3, z4, -, -, -⟩
    · exact Or.inr z1
    · rw [z4]
      try dsimp only at z3 ⊢
      rw [cF_some] at z3 ⊢
      have hx : (if s = t then 0 else 1 : Nat) ≤ 1 := by split <;> omega
      rcases ih (l + 1) t (by omega) with h | h <;> omega
theorem dC_lt (k l s : Nat) (hk : k < 90) : dC n u cv mf (k + 1) l s < 100 ↔ ∃ t, t < n ∧ (mf l s t && cv (l + 1) t && u.testBit t) = true ∧ dC n u cv mf k (l + 1) t < 100 := by
  have hd : ∀ t, dC n u cv mf k (l + 1) t ≤ k ∨ dC n u cv mf k (l + 1) t = 100 := fun t => dC_b k (l + 1) t (by omega)
  show mnF _ _ _ _ < 100 ↔ _
  constructor
  · intro h
    rcases mn_spec (fun t => (mf l s t && cv (l + 1) t) && u.testBit t) (fun t => cF (some s) t (dC n u cv mf k (l + 1) t)) 100 n with ⟨z1, -, -⟩ | ⟨t, z1, z2, z3, -, -, -, -⟩
    · omega
    · refine ⟨t, z1, z2, ?_⟩
      try dsimp only at z3
      rw [cF_some] at z3
      omega
  · rintro ⟨t, h1, h2, h3⟩
    have hc : cF (some s) t (dC n u cv mf k (l + 1) t) < 100 := by
      rw [cF_some]
      rcases hd t with h | h
      · split <;> omega
      · omega
    rcases mn_spec (fun t => (mf l s t && cv (l + 1) t) && u.testBit t) (fun t => cF (some s) t (dC n u cv mf k (l + 1) t)) 100 n with ⟨-, -, z3⟩ | ⟨v, -, -, z3, z4, -, -, -⟩
    · have := z3 t h1 h2
      try dsimp only at this
      omega
    · rw [z4]; exact z3
/-- the model's numbers are the class's -/
theorem mC_dC (hu : ∀ t, u.testBit t = true → t < n) (h6 : n ≤ 6) : ∀ k l s, k < 90 → ((u.testBit s && cv l s) = true → (dC n u cv mf k l s ≤ k ∧ mC u cv mf k l s = dC n u cv mf k l s) ∨ (dC n u cv mf k l s = 100 ∧ mC u cv mf k l s = 1000)) ∧ ((u.testBit s && cv l s) = false → mC u cv mf k l s = 1000) := by
  intro k
  induction k with
  | zero =>
    intro l s _
    refine ⟨fun h => Or.inl ⟨Nat.le_refl 0, ?_⟩, fun h => ?_⟩
    · unfold mC dC; rw [if_pos h]
    · unfold mC; rw [if_neg (by rw [h]; decide)]
  | succ k ih =>
    intro l s hk
    refine ⟨fun h => ?_, fun h => by unfold mC; rw [if_neg (by rw [h]; decide)]⟩
    have e1 : mC u cv mf (k + 1) l s = mnF (fun t => mf l s t) (fun t => mC u cv mf k (l + 1) t + (if s = t then 0 else 1)) 1000 6 := by
      show (if _ then _ else _) = _
      rw [if_pos h]
    have hd := dC_b (n := n) (u := u) (cv := cv) (mf := mf) (k + 1) l s hk
    have key : ∀ t, mf l s t = true → mC u cv mf k (l + 1) t < 1000 → t < n ∧ (mf l s t && cv (l + 1) t && u.testBit t) = true ∧ cF (some s) t (dC n u cv mf k (l + 1) t) = mC u cv mf k (l + 1) t + (if s = t then 0 else 1) ∧ dC n u cv mf k (l + 1) t ≤ k := by
      intro t ht hm
      cases hV : (u.testBit t && cv (l + 1) t) with
      | false => have := (ih (l + 1) t (by omega)).2 hV; omega
      | true =>
        rcases (ih (l + 1) t (by omega)).1 hV with ⟨a1, a2⟩ | ⟨a1, a2⟩
        · rw [Bool.and_eq_true] at hV
          refine ⟨hu t hV.1, by rw [ht, hV.1, hV.2]; rfl, ?_, a1⟩
          rw [cF_some, a2]
          split <;> omega
        · omega
    have key2 : ∀ t, (mf l s t && cv (l + 1) t && u.testBit t) = true → dC n u cv mf k (l + 1) t < 100 → mC u cv mf k (l + 1) t = dC n u cv mf k (l + 1) t ∧ dC n u cv mf k (l + 1) t ≤ k := by
      intro t ht hm
      simp only [Bool.and_eq_true] at ht
      rcases (ih (l + 1) t (by omega)).1 (by simp [ht.1.2, ht.2]) with ⟨a1, a2⟩ | ⟨a1, a2⟩
      · exact ⟨a2, a1⟩
      · omega
    have e2 : dC n u cv mf (k + 1) l s = mnF (fun t => (mf l s t && cv (l + 1) t) && u.testBit t) (fun t => cF (some s) t (dC n u cv mf k (l + 1) t)) 100 n := rfl
    rcases mn_spec (fun t => (mf l s t && cv (l + 1) t) && u.testBit t) (fun t => cF (some s) t (dC n u cv mf k (l + 1) t)) 100 n with ⟨z1, -, z3⟩ | ⟨t, z1, z2, z3, z4, -, -, z7⟩
    · right
      refine ⟨e2.trans z1, ?_⟩
      rw [e1]
      rcases mn_spec (fun t => mf l s t) (fun t => mC u cv mf k (l + 1) t + (if s = t then 0 else 1)) 1000 6 with ⟨y1, -, -⟩ | ⟨t, y1, y2, y3, y4, -, -, -⟩
      · exact y1
      · exfalso
        try dsimp only at y2 y3
        obtain ⟨b1, b2, b3, b4⟩ := key t y2 (by omega)
        have := z3 t b1 b2
        try dsimp only at this
        rw [b3] at this
        have := (key2 t b2 (by omega)).1
        have hx : (if s = t then 0 else 1 : Nat) ≤ 1 := by split <;> omega
        omega
    · left
      try dsimp only at z2 z3 z4 z7
      have hlt : dC n u cv mf k (l + 1) t < 100 := by rw [cF_some] at z3; omega
      obtain ⟨b1, b2⟩ := key2 t z2 hlt
      have z2' := z2
      simp only [Bool.and_eq_true] at z2'
      obtain ⟨c1, c2, c3, c4⟩ := key t z2'.1.1 (by omega)
      refine ⟨by rcases hd with hd | hd <;> omega, ?_⟩
      rw [e1, e2, z4]
      rcases mn_spec (fun t => mf l s t) (fun t => mC u cv mf k (l + 1) t + (if s = t then 0 else 1)) 1000 6 with ⟨y1, -, y3⟩ | ⟨v, y1, y2, y3, y4, -, -, y7⟩
      · have := y3 t (by omega) z2'.1.1
        try dsimp only at this
        omega
      · try dsimp only at y2 y3 y4 y7
        rw [y4]
        have := y7 t (by omega) z2'.1.1
        obtain ⟨d1, d2, d3, d4⟩ := key v y2 (by omega)
        have := z7 v d1 d2
        omega
theorem tb_orU (R l : Nat) (t : Nat) : ∀ s, (orU n cv mf R l s).testBit t = true ↔ ∃ v, v < s ∧ R.testBit v = true ∧ t < n ∧ (mf l v t && cv (l + 1) t) = true := by
  intro s
  induction s with
  | zero => simp [orU]
  | succ s ih =>
    unfold orU
    by_cases h : R.testBit s = true
    · rw [if_pos h, Nat.testBit_or, Bool.or_eq_true, ih, tb_msk, Bool.and_eq_true, decide_eq_true_eq]
      constructor
      · rintro (⟨v, h1, h2⟩ | h1)
        · exact ⟨v, by omega, h2⟩
        · exact ⟨s, by omega, h, h1⟩
      · rintro ⟨v, h1, h2⟩
        by_cases hv : v = s
        · subst hv; exact Or.inr h2.2
        · exact Or.inl ⟨v, by omega, h2⟩
    · rw [if_neg h, ih]
      constructor
      · rintro ⟨v, h1, h2⟩
        exact ⟨v, by omega, h2⟩
      · rintro ⟨v, h1, h2⟩
        by_cases hv : v = s
        · subst hv; exact absurd h2.1 h
        · exact ⟨v, by omega, h2⟩
theorem ne0_tb {x : Nat} : x ≠ 0 ↔ ∃ t, x.testBit t = true := by
  constructor
  · intro h
    exact Nat.exists_testBit_of_ne_zero h
  · rintro ⟨t, ht⟩ h
    rw [h] at ht
    simp at ht
theorem rch_n (hu : ∀ t, u.testBit t = true → t < n) (l : Nat) {t : Nat} (h : (rch n u cv mf l).testBit t = true) : t < n ∧ u.testBit t = true := by
  cases l with
  | zero =>
    unfold rch at h
    rw [Nat.testBit_and, Bool.and_eq_true] at h
    exact ⟨hu t h.2, h.2⟩
  | succ l =>
    unfold rch at h
    rw [Nat.testBit_and, Bool.and_eq_true] at h
    exact ⟨hu t h.2, h.2⟩
theorem rch_d (hu : ∀ t, u.testBit t = true → t < n) : ∀ k l, k < 90 → (rch n u cv mf (l + k) ≠ 0 ↔ ∃ t, (rch n u cv mf l).testBit t = true ∧ dC n u cv mf k l t < 100) := by
  intro k
  induction k with
  | zero =>
    intro l _
    rw [Nat.add_zero, ne0_tb]
    constructor
    · rintro ⟨t, h⟩; exact ⟨t, h, by unfold dC; decide⟩
    · rintro ⟨t, h, -⟩; exact ⟨t, h⟩
  | succ k ih =>
    intro l hk
    rw [show l + (k + 1) = (l + 1) + k by omega, ih (l + 1) (by omega)]
    have e : rch n u cv mf (l + 1) = orU n cv mf (rch n u cv mf l) l n &&& u := rfl
    constructor
    · rintro ⟨t, h1, h2⟩
      rw [e, Nat.testBit_and, Bool.and_eq_true, tb_orU] at h1
      obtain ⟨⟨v, a1, a2, a3, a4⟩, a5⟩ := h1
      exact ⟨v, a2, (dC_lt k l v (by omega)).mpr ⟨t, a3, by rw [a4, a5]; rfl, h2⟩⟩
    · rintro ⟨v, h1, h2⟩
      obtain ⟨t, a1, a2, a3⟩ := (dC_lt k l v (by omega)).mp h2
      rw [Bool.and_eq_true] at a2
      refine ⟨t, ?_, a3⟩
      rw [e, Nat.testBit_and, Bool.and_eq_true, tb_orU]
      exact ⟨⟨v, (rch_n hu l h1).1, h1, a1, a2.1⟩, a2.2⟩
/-- a whole edit there is just where the model finds fewest cuts -/
theorem has_w (hu : ∀ t, u.testBit t = true → t < n) (h6 : n ≤ 6) (hm : m < 90) : hasU n m u cv mf = decide (wC m u cv mf < 1000) := by
  unfold hasU wC
  by_cases h0 : m = 0
  · simp [h0]
  rw [if_neg h0]
  have e1 : decide (m = 0) = false := by simp [h0]
  rw [e1, Bool.false_or]
  have hr := rch_d (n := n) (u := u) (cv := cv) (mf := mf) hu (m - 1) 0 (by omega)
  rw [Nat.zero_add] at hr
  have key : rch n u cv mf (m - 1) ≠ 0 ↔ mnF (fun _ => true) (fun s => mC u cv mf (m - 1) 0 s) 1000 6 < 1000 := by
    rw [hr]
    have e2 : ∀ t, (rch n u cv mf 0).testBit t = (decide (t < n) && cv 0 t && u.testBit t) := fun t => by
      show (msk (cv 0) n &&& u).testBit t = _
      rw [Nat.testBit_and, tb_msk]
    constructor
    · rintro ⟨t, h1, h2⟩
      rw [e2] at h1
      simp only [Bool.and_eq_true, decide_eq_true_eq] at h1
      rcases (mC_dC (n := n) (u := u) (cv := cv) (mf := mf) hu h6 (m - 1) 0 t (by omega)).1 (by simp [h1.1.2, h1.2]) with ⟨a1, a2⟩ | ⟨a1, a2⟩
      · rcases mn_spec (fun _ => true) (fun s => mC u cv mf (m - 1) 0 s) 1000 6 with ⟨y1, -, y3⟩ | ⟨v, y1, y2, y3, y4, -, -, y7⟩
        · have := y3 t (by omega) rfl
          try dsimp only at this
          omega
        · rw [y4]; exact y3
      · omega
    · intro h
      rcases mn_spec (fun _ => true) (fun s => mC u cv mf (m - 1) 0 s) 1000 6 with ⟨y1, -, y3⟩ | ⟨v, y1, y2, y3, y4, -, -, y7⟩
      · omega
      · try dsimp only at y3
        cases hV : (u.testBit v && cv 0 v) with
        | false => have := (mC_dC (n := n) (u := u) (cv := cv) (mf := mf) hu h6 (m - 1) 0 v (by omega)).2 hV; omega
        | true =>
          rcases (mC_dC (n := n) (u := u) (cv := cv) (mf := mf) hu h6 (m - 1) 0 v (by omega)).1 hV with ⟨a1, a2⟩ | ⟨a1, a2⟩
          · rw [Bool.and_eq_true] at hV
            refine ⟨v, ?_, by omega⟩
            rw [e2]
            simp [hu v hV.1, hV.1, hV.2]
          · omega
  by_cases hh : mnF (fun _ => true) (fun s => mC u cv mf (m - 1) 0 s) 1000 6 < 1000
  · rw [decide_eq_true hh]
    have := key.mpr hh
    simp [this]
  · rw [decide_eq_false hh]
    have : ¬ rch n u cv mf (m - 1) ≠ 0 := fun z => hh (key.mp z)
    simp only [Decidable.not_not] at this
    simp [this]
/-- the model's way, held against the class's -/
def wayOk (w : Nat → Nat) : Prop := (0 < m → mC u cv mf (m - 1) 0 (w 0) = wC m u cv mf ∧ w 0 < n ∧ ∀ t, t < w 0 → mC u cv mf (m - 1) 0 t ≠ wC m u cv mf) ∧ ∀ l, l + 1 < m → w (l + 1) < n ∧ mf l (w l) (w (l + 1)) = true ∧ mC u cv mf (m - 1 - (l + 1)) (l + 1) (w (l + 1)) + (if w l = w (l + 1) then 0 else 1) = mC u cv mf (m - 1 - l) l (w l) ∧ ∀ t, t < w (l + 1) → ¬ (mf l (w l) t = true ∧ mC u cv mf (m - 1 - (l + 1)) (l + 1) t + (if w l = t then 0 else 1) = mC u cv mf (m - 1 - l) l (w l))
theorem tr_step (hu : ∀ t, u.testBit t = true → t < n) (h6 : n ≤ 6) (hm : m < 90) {l s : Nat} (hl : l + 1 < m) (hs : tr n m u cv mf l = some s) (hV : (u.testBit s && cv l s) = true) (hd : dC n u cv mf (m - 1 - l) l s < 100) : ∃ t, tr n m u cv mf (l + 1) = some t ∧ t < n ∧ mf l s t = true ∧ (u.testBit t && cv (l + 1) t) = true ∧ dC n u cv mf (m - 1 - (l + 1)) (l + 1) t < 100 ∧ mC u cv mf (m - 1 - (l + 1)) (l + 1) t + (if s = t then 0 else 1) = mC u cv mf (m - 1 - l) l s ∧ ∀ v, v < t → ¬ (mf l s v = true ∧ mC u cv mf (m - 1 - (l + 1)) (l + 1) v + (if s = v then 0 else 1) = mC u cv mf (m - 1 - l) l s) := by
  obtain ⟨k, hk⟩ : ∃ k, m - 1 - l = k + 1 := ⟨m - 1 - l - 1, by omega⟩
  have hk2 : m - 1 - (l + 1) = k := by omega
  rw [hk2]
  rw [hk] at hd ⊢
  have e1 : tr n m u cv mf (l + 1) = amF (fun t => (mf l s t && cv (l + 1) t) && u.testBit t) (fun t => cF (some s) t (dC n u cv mf k (l + 1) t)) 100 n := by
    show (match tr n m u cv mf l with | none => none | some s => amF (fun t => (mf l s t && cv (l + 1) t) && u.testBit t) (fun t => cF (some s) t (dC n u cv mf (m - 1 - (l + 1)) (l + 1) t)) 100 n) = _
    rw [hs, hk2]
  have hM : mC u cv mf (k + 1) l s = dC n u cv mf (k + 1) l s := by
    rcases (mC_dC (n := n) (u := u) (cv := cv) (mf := mf) hu h6 (k + 1) l s (by omega)).1 hV with h | h
    · exact h.2
    · omega
  have e2 : dC n u cv mf (k + 1) l s = mnF (fun t => (mf l s t && cv (l + 1) t) && u.testBit t) (fun t => cF (some s) t (dC n u cv mf k (l + 1) t)) 100 n := rfl
  rcases mn_spec (fun t => (mf l s t && cv (l + 1) t) && u.testBit t) (fun t => cF (some s) t (dC n u cv mf k (l + 1) t)) 100 n with ⟨z1, -, -⟩ | ⟨t, z1, z2, z3, z4, z5, z6, -⟩
  · rw [e2, z1] at hd; omega
  · try dsimp only at z2 z3 z4 z6
    have z2' := z2
    simp only [Bool.and_eq_true] at z2'
    have hVt : (u.testBit t && cv (l + 1) t) = true := by simp [z2'.1.2, z2'.2]
    have hlt : dC n u cv mf k (l + 1) t < 100 := by rw [cF_some] at z3; omega
    have hkb := dC_b (n := n) (u := u) (cv := cv) (mf := mf) k (l + 1) t (by omega)
    have hMt : mC u cv mf k (l + 1) t = dC n u cv mf k (l + 1) t := by
      rcases (mC_dC (n := n) (u := u) (cv := cv) (mf := mf) hu h6 k (l + 1) t (by omega)).1 hVt with h | h
      · exact h.2
      · omega
    refine ⟨t, e1.trans z5, z1, z2'.1.1, hVt, hlt, ?_, ?_⟩
    · rw [hM, e2, z4, hMt, cF_some]
      split <;> omega
    · rintro v hv ⟨h1, h2⟩
      rw [hM] at h2
      have hlt2 : mC u cv mf k (l + 1) v < 1000 := by omega
      cases hVv : (u.testBit v && cv (l + 1) v) with
      | false => have := (mC_dC (n := n) (u := u) (cv := cv) (mf := mf) hu h6 k (l + 1) v (by omega)).2 hVv; omega
      | true =>
        rcases (mC_dC (n := n) (u := u) (cv := cv) (mf := mf) hu h6 k (l + 1) v (by omega)).1 hVv with ⟨a1, a2⟩ | ⟨a1, a2⟩
        · rw [Bool.and_eq_true] at hVv
          have := z6 v hv (by rw [h1, hVv.1, hVv.2]; rfl)
          rw [← z4, ← e2, cF_some] at this
          rw [a2] at h2
          split at h2 <;> split at this <;> omega
        · omega
theorem tr_way (hu : ∀ t, u.testBit t = true → t < n) (h6 : n ≤ 6) (hm : m < 90) (hh : hasU n m u cv mf = true) : ∃ w : Nat → Nat, (∀ l, l < m → tr n m u cv mf l = some (w l) ∧ w l < n ∧ (u.testBit (w l) && cv l (w l)) = true) ∧ wayOk (n := n) (m := m) (u := u) (cv := cv) (mf := mf) w ∧ (0 < m → trK n m u cv mf = wC m u cv mf) := by
  by_cases h0 : m = 0
  · subst h0
    exact ⟨fun _ => 0, fun l hl => absurd hl (by omega), ⟨fun h => absurd h (by omega), fun l h => absurd h (by omega)⟩, fun h => absurd h (by omega)⟩
  have hw : wC m u cv mf < 1000 := by
    rw [has_w hu h6 hm] at hh
    exact of_decide_eq_true hh
  have ew : wC m u cv mf = mnF (fun _ => true) (fun s => mC u cv mf (m - 1) 0 s) 1000 6 := if_neg h0
  have start : ∃ s, tr n m u cv mf 0 = some s ∧ s < n ∧ (u.testBit s && cv 0 s) = true ∧ dC n u cv mf (m - 1 - 0) 0 s < 100 ∧ mC u cv mf (m - 1) 0 s = wC m u cv mf ∧ (∀ t, t < s → mC u cv mf (m - 1) 0 t ≠ wC m u cv mf) ∧ cF none s (dC n u cv mf (m - 1) 0 s) = wC m u cv mf := by
    have keyM : ∀ v, mC u cv mf (m - 1) 0 v < 1000 → v < n ∧ (cv 0 v && u.testBit v) = true ∧ mC u cv mf (m - 1) 0 v = dC n u cv mf (m - 1) 0 v ∧ dC n u cv mf (m - 1) 0 v ≤ m - 1 := by
      intro v hv
      cases hVv : (u.testBit v && cv 0 v) with
      | false => have := (mC_dC (n := n) (u := u) (cv := cv) (mf := mf) hu h6 (m - 1) 0 v (by omega)).2 hVv; omega
      | true =>
        rcases (mC_dC (n := n) (u := u) (cv := cv) (mf := mf) hu h6 (m - 1) 0 v (by omega)).1 hVv with ⟨a1, a2⟩ | ⟨a1, a2⟩
        · rw [Bool.and_eq_true] at hVv
          exact ⟨hu v hVv.1, by rw [hVv.1, hVv.2]; rfl, a2, a1⟩
        · omega
    rcases mn_spec (fun _ => true) (fun s => mC u cv mf (m - 1) 0 s) 1000 6 with ⟨y1, -, y3⟩ | ⟨v, y1, -, y3, y4, -, y6, y7⟩
    · rw [ew, y1] at hw; omega
    · try dsimp only at y3 y4 y6 y7
      obtain ⟨b1, b2, b3, b4⟩ := keyM v y3
      rcases mn_spec (fun t => cv 0 t && u.testBit t) (fun t => cF none t (dC n u cv mf (m - 1) 0 t)) 100 n with ⟨z1, -, z3⟩ | ⟨s, z1, z2, z3, z4, z5, z6, z7⟩
      · have := z3 v b1 b2
        try dsimp only at this
        rw [cF_none] at this
        omega
      · try dsimp only at z2 z3 z4 z6 z7
        have hVs : (u.testBit s && cv 0 s) = true := by rw [Bool.and_comm]; exact z2
        have hds : dC n u cv mf (m - 1) 0 s < 100 := by rw [cF_none] at z3; omega
        have hMs : mC u cv mf (m - 1) 0 s = dC n u cv mf (m - 1) 0 s := by
          rcases (mC_dC (n := n) (u := u) (cv := cv) (mf := mf) hu h6 (m - 1) 0 s (by omega)).1 hVs with h | h
          · exact h.2
          · omega
        have g1 := z7 v b1 b2
        have g2 := y7 s (by omega) rfl
        rw [cF_none, cF_none] at g1
        have hE : mC u cv mf (m - 1) 0 s = wC m u cv mf := by rw [ew, y4]; omega
        refine ⟨s, z5, z1, hVs, hds, hE, fun t ht hc => ?_, ?_⟩
        · rw [← hE] at hc
          obtain ⟨d1, d2, d3, d4⟩ := keyM t (by omega)
          have := z6 t ht d2
          rw [cF_none, cF_none] at this
          omega
        · rw [cF_none]; omega
  obtain ⟨s0, a1, a2, a3, a4, a5, a6, a7⟩ := start
  have all : ∀ l, l < m → ∃ s, tr n m u cv mf l = some s ∧ s < n ∧ (u.testBit s && cv l s) = true ∧ dC n u cv mf (m - 1 - l) l s < 100 := by
    intro l
    induction l with
    | zero => intro _; exact ⟨s0, a1, a2, a3, a4⟩
    | succ l ih =>
      intro hl
      obtain ⟨s, b1, b2, b3, b4⟩ := ih (by omega)
      obtain ⟨t, c1, c2, c3, c4, c5, -, -⟩ := tr_step hu h6 hm hl b1 b3 b4
      exact ⟨t, c1, c2, c4, c5⟩
  have hw0 : ∀ l, l < m → tr n m u cv mf l = some ((tr n m u cv mf l).getD 0) := fun l hl => by
    obtain ⟨s, b1, -⟩ := all l hl
    rw [b1]; rfl
  refine ⟨fun l => (tr n m u cv mf l).getD 0, fun l hl => ?_, ⟨fun _ => ?_, fun l hl => ?_⟩, fun _ => ?_⟩
  · obtain ⟨s, b1, b2, b3, -⟩ := all l hl
    show tr n m u cv mf l = some ((tr n m u cv mf l).getD 0) ∧ (tr n m u cv mf l).getD 0 < n ∧ (u.testBit ((tr n m u cv mf l).getD 0) && cv l ((tr n m u cv mf l).getD 0)) = true
    rw [b1]
    exact ⟨rfl, b2, b3⟩
  · try dsimp only
    rw [a1]
    exact ⟨a5, a2, a6⟩
  · obtain ⟨s, b1, b2, b3, b4⟩ := all l (by omega)
    obtain ⟨t, c1, c2, c3, c4, c5, c6, c7⟩ := tr_step hu h6 hm hl b1 b3 b4
    have g1 : s = (tr n m u cv mf l).getD 0 := by rw [b1]; rfl
    have g2 : t = (tr n m u cv mf (l + 1)).getD 0 := by rw [c1]; rfl
    subst g1 g2
    exact ⟨c2, c3, c6, c7⟩
  · unfold trK
    rw [a1]
    exact a7
end PM
end
section
theorem tbI : ∀ u : Nat, u < 64 → ∀ i : Nat, i < 6 → ((nI u >>> (nI i &&& 31)) &&& 1 = 1 ↔ u.testBit i = true) := by decide +kernel
theorem andI : ∀ u : Nat, u < 64 → ∀ v : Nat, v < 64 → nI u &&& nI v = nI (u &&& v) := by decide +kernel
theorem orI : ∀ u : Nat, u < 64 → ∀ v : Nat, v < 64 → nI u ||| nI v = nI (u ||| v) := by decide +kernel
theorem shlI : ∀ n : Nat, n < 7 → (1 : Int32) <<< (nI n &&& 31) = nI (2 ^ n) := by decide +kernel
theorem notI : ∀ u : Nat, u < 64 → ∀ i : Nat, i < 6 → nI u &&& (((1 : Int32) <<< (nI i &&& 31)) ^^^ (-1)) = nI (u &&& (63 ^^^ 2 ^ i)) := by decide +kernel
theorem and_lt64 {u v : Nat} (h : v < 64) : u &&& v < 64 := Nat.lt_of_le_of_lt Nat.and_le_right h
theorem and_lt64' {u v : Nat} (h : u < 64) : u &&& v < 64 := Nat.lt_of_le_of_lt Nat.and_le_left h
theorem or_lt64 {u v : Nat} (h1 : u < 64) (h2 : v < 64) : u ||| v < 64 := Nat.or_lt_two_pow (n := 6) h1 h2
theorem msk64 {p : Nat → Bool} {n : Nat} (h : n ≤ 6) : msk p n < 64 := Nat.lt_of_lt_of_le (msk_lt p n) (Nat.pow_le_pow_right (by decide) h : 2 ^ n ≤ 2 ^ 6)
theorem pow64 {n : Nat} (h : n < 6) : 2 ^ n < 64 := (Nat.pow_lt_pow_right (by decide) h : 2 ^ n < 2 ^ 6)
theorem msk_or1 {p : Nat → Bool} {n s : Nat} (h : s < n) : msk p n ||| 2 ^ s = msk (fun t => decide (s = t) || p t) n := by
  apply Nat.eq_of_testBit_eq
  intro t
  rw [Nat.testBit_or, tb_msk, tb_msk, Nat.testBit_two_pow]
  by_cases h1 : s = t
  · subst h1; simp [h]
  · simp [h1]
theorem msk_and {p q : Nat → Bool} {n : Nat} : msk p n &&& msk q n = msk (fun t => p t && q t) n := by
  apply Nat.eq_of_testBit_eq
  intro t
  rw [Nat.testBit_and, tb_msk, tb_msk, tb_msk]
  cases decide (t < n) <;> cases p t <;> cases q t <;> rfl
theorem tb_63 {i t : Nat} : (63 ^^^ 2 ^ i).testBit t = (decide (t < 6) ^^ decide (i = t)) := by
  rw [Nat.testBit_xor, Nat.testBit_two_pow, show 63 = 2 ^ 6 - 1 by decide, Nat.testBit_two_pow_sub_one]
theorem msk_clr {p : Nat → Bool} {n i : Nat} (h6 : n ≤ 6) : msk p n &&& (63 ^^^ 2 ^ i) = msk (fun t => p t && !decide (t = i)) n := by
  apply Nat.eq_of_testBit_eq
  intro t
  rw [Nat.testBit_and, tb_msk, tb_msk, tb_63]
  by_cases h1 : t < n
  · have h2 : t < 6 := by omega
    by_cases h3 : i = t
    · subst h3; simp [h2]
    · have : ¬ t = i := fun z => h3 z.symm
      simp [h1, h2, h3, this]
  · simp [h1]
theorem mnF_cg {p q : Nat → Bool} {c d : Nat → Nat} {X : Nat} : ∀ n, (∀ t, t < n → p t = q t ∧ c t = d t) → mnF p c X n = mnF q d X n ∧ amF p c X n = amF q d X n := by
  intro n
  induction n with
  | zero => intro _; exact ⟨rfl, rfl⟩
  | succ n ih =>
    intro h
    obtain ⟨e1, e2⟩ := ih (fun t ht => h t (by omega))
    obtain ⟨e3, e4⟩ := h n (by omega)
    unfold mnF amF
    rw [e1, e2, e3, e4]
    exact ⟨rfl, rfl⟩
theorem mnF_le {p : Nat → Bool} {c : Nat → Nat} {X : Nat} (n : Nat) : mnF p c X n ≤ X := by
  rcases mn_spec p c X n with ⟨z, -⟩ | ⟨t, -, -, z3, z4, -⟩ <;> omega
theorem amF_ok {p : Nat → Bool} {c : Nat → Nat} {X : Nat} (n : Nat) : okO n (amF p c X n) := by
  intro s hs
  rcases mn_spec p c X n with ⟨-, z, -⟩ | ⟨t, z1, -, -, -, z5, -⟩
  · rw [z] at hs; cases hs
  · rw [z5] at hs; cases hs; exact z1
theorem cF_le {b : Option Nat} {t c : Nat} : cF b t c ≤ 100 := by unfold cF; omega
theorem min100 {x c : Nat} (h : x + c ≤ 1000) : (if (100 : Int32) < nI x + nI c then (100 : Int32) else nI x + nI c) = nI (min (x + c) 100) := by
  have e : (100 : Int32) = nI 100 := rfl
  rw [nI_add, e]
  by_cases h1 : 100 < x + c
  · rw [if_pos ((nltI (a := 100) (by omega) (by omega)).mpr h1), Nat.min_eq_right (by omega)]
  · rw [if_neg (fun z => h1 ((nltI (a := 100) (by omega) (by omega)).mp z)), Nat.min_eq_left (by omega)]
/-- what study knows -/
def PS (Q : Pln) (m n : Nat) (cv : Nat → Nat → Bool) (mf : Nat → Nat → Nat → Bool) : Prop := p_nl Q = nI m ∧ p_ns Q = nI n ∧ (∀ l, l < m → p_cov Q l = nI (msk (cv l) n)) ∧ (∀ l s, l + 1 < m → s < n → p_fol Q l s = nI (msk (fun t => mf l s t && cv (l + 1) t) n))
theorem PS.cg {Q Q' : Pln} {m n : Nat} {cv : Nat → Nat → Bool} {mf : Nat → Nat → Nat → Bool} (h : PS Q m n cv mf) (e1 : p_nl Q' = p_nl Q) (e2 : p_ns Q' = p_ns Q) (e3 : p_cov Q' = p_cov Q) (e4 : p_fol Q' = p_fol Q) : PS Q' m n cv mf := by
  unfold PS
  rw [e1, e2, e3, e4]
  exact h
/-- a row before another -/
def lowI (a b : Nat → Nat) : Nat → Nat → Bool
  | 0, _ => false
  | k + 1, l => if a l = b l then lowI a b k (l + 1) else decide (a l < b l)
def lowF (a b : Nat → Nat) (m : Nat) : Bool := lowI a b m 0
theorem lowI_sk {a b : Nat → Nat} : ∀ k j l, (∀ i, l ≤ i → i < l + k → a i = b i) → lowI a b (k + j) l = lowI a b j (l + k) := by
  intro k
  induction k with
  | zero => intro j l _; rw [Nat.zero_add, Nat.add_zero]
  | succ k ih =>
    intro j l h
    rw [show k + 1 + j = (k + j) + 1 by omega]
    unfold lowI
    rw [if_pos (h l (by omega) (by omega)), ih j (l + 1) (fun i h1 h2 => h i (by omega) (by omega)), show l + 1 + k = l + (k + 1) by omega]
    cases j <;> rfl
theorem low_eq {a b : Nat → Nat} {m : Nat} (h : ∀ k, k < m → a k = b k) : lowF a b m = false := by
  have := lowI_sk (a := a) (b := b) m 0 0 (fun i _ h2 => h i (by omega))
  rw [Nat.add_zero] at this
  exact this
theorem low_ne {a b : Nat → Nat} {m l : Nat} (hl : l < m) (h : ∀ k, k < l → a k = b k) (hn : a l ≠ b l) : lowF a b m = decide (a l < b l) := by
  have := lowI_sk (a := a) (b := b) l (m - l) 0 (fun i _ h2 => h i (by omega))
  rw [show l + (m - l) = m by omega, Nat.zero_add] at this
  unfold lowF
  rw [this]
  obtain ⟨k, hk⟩ : ∃ k, m - l = k + 1 := ⟨m - l - 1, by omega⟩
  rw [hk]
  unfold lowI
  rw [if_neg hn]
section PN
variable {g : Glob} {S : Scn} {O : Oth}
theorem Hfol {l : Nat} (hl : l < 8) : hat (lay (S, O)) (57 + 1 + l) = some (ia 6 (p_fol (o_Q O) l)) := by
  rcases (show l = 0 ∨ l = 1 ∨ l = 2 ∨ l = 3 ∨ l = 4 ∨ l = 5 ∨ l = 6 ∨ l = 7 by omega) with rfl | rfl | rfl | rfl | rfl | rfl | rfl | rfl <;> rfl
theorem Hcut {l : Nat} (hl : l < 8) : hat (lay (S, O)) (66 + 1 + l) = some (ia 6 (p_cut (o_Q O) l)) := by
  rcases (show l = 0 ∨ l = 1 ∨ l = 2 ∨ l = 3 ∨ l = 4 ∨ l = 5 ∨ l = 6 ∨ l = 7 by omega) with rfl | rfl | rfl | rfl | rfl | rfl | rfl | rfl <;> rfl
set_option maxRecDepth 10000 in
theorem Lfol {l : Nat} {f : Fn} (hl : l < 8) : (lay (S, O)).set (57 + 1 + l) (ia 6 f) = lay (S, o_Q' O (p_fol' (o_Q O) (putP (p_fol (o_Q O)) l f))) := by
  rcases (show l = 0 ∨ l = 1 ∨ l = 2 ∨ l = 3 ∨ l = 4 ∨ l = 5 ∨ l = 6 ∨ l = 7 by omega) with rfl | rfl | rfl | rfl | rfl | rfl | rfl | rfl <;> rfl
set_option maxRecDepth 10000 in
theorem Lcut {l : Nat} {f : Fn} (hl : l < 8) : (lay (S, O)).set (66 + 1 + l) (ia 6 f) = lay (S, o_Q' O (p_cut' (o_Q O) (putP (p_cut (o_Q O)) l f))) := by
  rcases (show l = 0 ∨ l = 1 ∨ l = 2 ∨ l = 3 ∨ l = 4 ∨ l = 5 ∨ l = 6 ∨ l = 7 by omega) with rfl | rfl | rfl | rfl | rfl | rfl | rfl | rfl <;> rfl
theorem rowF {x : Int32} {l : Nat} (e : x = nI l) (hl : l < 8) : (fun i => if i < 8 then some (57 + 1 + i) else none) x.toNatClampNeg = some (57 + 1 + l) := by
  rw [vcl e (by omega)]; exact if_pos hl
theorem rowC {x : Int32} {l : Nat} (e : x = nI l) (hl : l < 8) : (fun i => if i < 8 then some (66 + 1 + i) else none) x.toNatClampNeg = some (66 + 1 + l) := by
  rw [vcl e (by omega)]; exact if_pos hl
theorem ac_cutsFrom {l t c : Nat} {b : Option Nat} (hl : l < 8) (ht : t < 6) (hb : okO 6 b) (hc : p_cut (o_Q O) l t = nI c) (h100 : c ≤ 100) : ACe g mX1_cutsFrom [.ref 55, .int (nI l), .int (nI t), .int (sh b)] (lay (S, O)) (some (.int (nI (cF b t c)))) (lay (S, O)) := by
  have J : ∀ x : Nat, x = (if b = none ∨ b = some t then 0 else 1) → AW g mX1_cutsFrom (fun r h' => r = some (.int (nI (cF b t c))) ∧ h' = lay (S, O)) 0 0 25 [some (.ref 55), some (.int (nI l)), some (.int (nI t)), some (.int (sh b)), none] [.int (nI x)] (lay (S, O)) := by
    intro x hx
    have hx1 : x ≤ 1 := by rw [hx]; split <;> omega
    refine lpw gdX1_cutsFrom 40 ?_
    refine ⟨3, 8, _, 66 + 1 + l, Or.inr rfl, rfl, vlit hl (by decide), rowC rfl hl, ?_⟩
    refine bEl_t (hat_lt (Hcut (S := S) (O := O) hl)) ⟨6, _, Hcut hl, vlit ht (by decide), ?_⟩
    rw [vcl (x := nI t) rfl (by omega)]
    refine ⟨congrArg (fun z => some (Value.int z)) ?_, rfl⟩
    show (if (100 : Int32) < nI x + p_cut (o_Q O) l t then (100 : Int32) else nI x + p_cut (o_Q O) l t) = _
    rw [hc, min100 (by omega), hx]
    rfl
  have J20 : (b = none ∨ b = some t) → AW g mX1_cutsFrom (fun r h' => r = some (.int (nI (cF b t c))) ∧ h' = lay (S, O)) 0 0 20 [some (.ref 55), some (.int (nI l)), some (.int (nI t)), some (.int (sh b)), none] [] (lay (S, O)) := by
    intro h
    exact lpw gdX1_cutsFrom 40 (J 0 (by rw [if_pos h]))
  refine acw gdX1_cutsFrom 40 rfl ⟨fun _ => ?_, fun h => absurd h (nI_ne9 (by omega))⟩
  refine ⟨fun h => J20 (Or.inl ((sh_none hb (by decide)).mp h)), fun h => ⟨fun h1 => ?_, fun h1 => ?_⟩⟩
  · refine J 1 ?_
    rw [if_neg]
    rintro (z | z)
    · exact h (by rw [z]; rfl)
    · exact h1 (by rw [z]; rfl)
  · refine J20 (Or.inr ?_)
    cases b with
    | none => exact absurd rfl h
    | some v => exact congrArg some ((neqI (by have := hb v rfl; omega) (by omega)).mp h1)
theorem ac_cutsFrom0 {l : Nat} {b : Int32} : ACe g mX1_cutsFrom [.ref 55, .int (nI l), .int (-9), .int b] (lay (S, O)) (some (.int (nI 100))) (lay (S, O)) :=
  acw gdX1_cutsFrom 40 rfl ⟨fun h => absurd rfl h, fun _ => ⟨rfl, rfl⟩⟩
theorem ac_cheapestOf {l n a : Nat} {b : Option Nat} {k : Nat → Nat} (hl : l < 8) (h6 : n ≤ 6) (hn : p_ns (o_Q O) = nI n) (ha : a < 64) (hb : okO 6 b) (hk : ∀ t, t < n → p_cut (o_Q O) l t = nI (k t) ∧ k t ≤ 100) : ACe g mX1_cheapestOf [.ref 55, .int (nI l), .int (nI a), .int (sh b)] (lay (S, O)) (some (.int (sh (amF (fun t => a.testBit t) (fun t => cF b t (k t)) 100 n)))) (lay (S, O)) := by
  refine acw gdX1_cheapestOf 40 rfl ?_
  refine dn (n := n) (P := fun i => AW g mX1_cheapestOf _ 0 0 11 [some (.ref 55), some (.int (nI l)), some (.int (nI a)), some (.int (sh b)), some (.int (sh (amF (fun t => a.testBit t) (fun t => cF b t (k t)) 100 i))), some (.int (nI (mnF (fun t => a.testBit t) (fun t => cF b t (k t)) 100 i))), some (.int (nI i))] [] (lay (S, O))) ?_ (fun i hi ih => ?_) 0 (Nat.zero_le _)
  · exact lpw gdX1_cheapestOf 40 ⟨fun _ => ⟨rfl, rfl⟩, fun h => absurd (show p_ns (o_Q O) ≤ _ by rw [hn]; exact nle (by omega) (by omega)) h⟩
  · have hle := mnF_le (p := fun t => a.testBit t) (c := fun t => cF b t (k t)) (X := 100) i
    have hcl := cF_le (b := b) (t := i) (c := k i)
    have hcf := ac_cutsFrom (g := g) (S := S) (O := O) (l := l) (t := i) (c := k i) (b := b) hl (by omega) hb (hk i hi).1 (hk i hi).2
    refine lpw gdX1_cheapestOf 40 ⟨fun h => absurd (show p_ns (o_Q O) ≤ _ from h) (by rw [hn]; exact nge (by omega) (by omega)), fun _ => ⟨fun h1 => ?_, fun h1 => ac_to hcf ⟨fun h2 => ?_, fun h2 => ac_to hcf ?_⟩⟩⟩
    · have e : a.testBit i = false := by
        rw [tbI a ha i (by omega)] at h1
        simpa using h1
      have em : mnF (fun t => a.testBit t) (fun t => cF b t (k t)) 100 (i + 1) = mnF (fun t => a.testBit t) (fun t => cF b t (k t)) 100 i := if_neg (by simp [e])
      have ea : amF (fun t => a.testBit t) (fun t => cF b t (k t)) 100 (i + 1) = amF (fun t => a.testBit t) (fun t => cF b t (k t)) 100 i := if_neg (by simp [e])
      rw [em, ea] at ih
      exact awl (by rw [← nI_1]; rfl) ih
    · have e : ¬ cF b i (k i) < mnF (fun t => a.testBit t) (fun t => cF b t (k t)) 100 i := fun z => by
        have := (nleI (by omega) (by omega)).mp h2
        omega
      have em : mnF (fun t => a.testBit t) (fun t => cF b t (k t)) 100 (i + 1) = mnF (fun t => a.testBit t) (fun t => cF b t (k t)) 100 i := if_neg (by simp [e])
      have ea : amF (fun t => a.testBit t) (fun t => cF b t (k t)) 100 (i + 1) = amF (fun t => a.testBit t) (fun t => cF b t (k t)) 100 i := if_neg (by simp [e])
      rw [em, ea] at ih
      exact awl (by rw [← nI_1]; rfl) ih
    · have e1 : a.testBit i = true := (tbI a ha i (by omega)).mp h1
      have e : cF b i (k i) < mnF (fun t => a.testBit t) (fun t => cF b t (k t)) 100 i := by
        apply Nat.lt_of_not_le
        intro z
        exact h2 ((nleI (by omega) (by omega)).mpr z)
      have em : mnF (fun t => a.testBit t) (fun t => cF b t (k t)) 100 (i + 1) = cF b i (k i) := if_pos (by simp [e, e1])
      have ea : amF (fun t => a.testBit t) (fun t => cF b t (k t)) 100 (i + 1) = some i := if_pos (by simp [e, e1])
      rw [em, ea] at ih
      exact awl (by rw [← nI_1]; rfl) ih
theorem ac_fewest0 {m s : Nat} {u : Int32} (hm : p_nl (o_Q O) = nI (m + 1)) : ACe g mX1_fewestBehind [.ref 55, .int (nI m), .int (nI s), .int u] (lay (S, O)) (some (.int (nI 0))) (lay (S, O)) := by
  refine acw gdX1_fewestBehind 40 rfl ⟨fun h => absurd (show nI m = p_nl (o_Q O) - 1 by rw [hm]; exact (nI_pred m).symm) h, fun _ => ⟨rfl, rfl⟩⟩
theorem ac_fewest {m n l s u : Nat} {cv : Nat → Nat → Bool} {mf : Nat → Nat → Nat → Bool} {k : Nat → Nat} (hP : PS (o_Q O) m n cv mf) (h8 : m ≤ 8) (h6 : n ≤ 6) (hl : l + 1 < m) (hs : s < n) (hu : u < 64) (hk : ∀ t, t < n → p_cut (o_Q O) (l + 1) t = nI (k t) ∧ k t ≤ 100) : ACe g mX1_fewestBehind [.ref 55, .int (nI l), .int (nI s), .int (nI u)] (lay (S, O)) (some (.int (nI (mnF (fun t => (mf l s t && cv (l + 1) t) && u.testBit t) (fun t => cF (some s) t (k t)) 100 n)))) (lay (S, O)) := by
  have hb : okO 6 (some s) := fun v hv => by cases hv; omega
  have hm64 := msk64 (p := fun t => mf l s t && cv (l + 1) t) h6
  have C1 := ac_cheapestOf (g := g) (S := S) (O := O) (l := l + 1) (a := msk (fun t => mf l s t && cv (l + 1) t) n &&& u) (b := some s) (k := k) (by omega) h6 hP.2.1 (and_lt64 hu) hb hk
  obtain ⟨e1, e2⟩ := mnF_cg (X := 100) (p := fun t => (msk (fun t => mf l s t && cv (l + 1) t) n &&& u).testBit t) (q := fun t => (mf l s t && cv (l + 1) t) && u.testBit t) (c := fun t => cF (some s) t (k t)) (d := fun t => cF (some s) t (k t)) n (fun t ht => ⟨by rw [Nat.testBit_and, tb_msk]; simp [ht], rfl⟩)
  rw [e2] at C1
  refine acw gdX1_fewestBehind 40 rfl ⟨fun _ => ?_, fun h => ?_⟩
  · refine ⟨3, 8, _, 57 + 1 + l, Or.inr rfl, rfl, vlit (by omega) (by decide), rowF rfl (by omega), ?_⟩
    refine bEl_t (hat_lt (Hfol (S := S) (O := O) (l := l) (by omega))) ⟨6, _, Hfol (by omega), vlit (by omega) (by decide), ?_⟩
    rw [vcl (x := nI s) rfl (by omega), show p_fol (o_Q (S, O).snd) l s = _ from hP.2.2.2 l s hl hs]
    refine ac_ar (by rw [nI_1, andI _ hm64 _ hu]; rfl) (ac_to C1 ?_)
    rcases mn_spec (fun t => (mf l s t && cv (l + 1) t) && u.testBit t) (fun t => cF (some s) t (k t)) 100 n with ⟨z1, z2, -⟩ | ⟨t, z1, z2, z3, z4, z5, -, -⟩
    · rw [z1, z2]
      exact ac_ar (by rw [nI_1]; rfl) (ac_to (ac_cutsFrom0 (l := l + 1) (b := nI s)) ⟨rfl, rfl⟩)
    · rw [z4, z5]
      exact ac_ar (by rw [nI_1]; rfl) (ac_to (ac_cutsFrom (b := some s) (l := l + 1) (t := t) (by omega) (by omega) hb (hk t z1).1 (hk t z1).2) ⟨rfl, rfl⟩)
  · have h' : nI l = p_nl (o_Q O) - 1 := h
    obtain ⟨j, rfl⟩ : ∃ j, m = j + 1 := ⟨m - 1, by omega⟩
    rw [hP.1, nI_pred, neqI (by omega) (by omega)] at h'
    omega
theorem orU_lt {n R l : Nat} {cv : Nat → Nat → Bool} {mf : Nat → Nat → Nat → Bool} (h6 : n ≤ 6) : ∀ s, orU n cv mf R l s < 64 := by
  intro s
  induction s with
  | zero => unfold orU; decide
  | succ s ih =>
    unfold orU
    split
    · exact or_lt64 ih (msk64 h6)
    · exact ih
theorem rch_lt {n u l : Nat} {cv : Nat → Nat → Bool} {mf : Nat → Nat → Nat → Bool} (hu : u < 64) : rch n u cv mf l < 64 := by
  cases l with
  | zero => exact and_lt64 hu
  | succ l => exact and_lt64 hu
theorem ac_hasWholeEdit {m n u : Nat} {cv : Nat → Nat → Bool} {mf : Nat → Nat → Nat → Bool} (hP : PS (o_Q O) m n cv mf) (h8 : m ≤ 8) (h6 : n ≤ 6) (hu : u < 64) : ACe g mX1_hasWholeEdit [.ref 55, .int (nI u)] (lay (S, O)) (some (.int (bi (hasU n m u cv mf)))) (lay (S, O)) := by
  obtain ⟨hm, hn, hcv, hfo⟩ := hP
  by_cases h0 : m = 0
  · subst h0
    exact acw gdX1_hasWholeEdit 40 rfl ⟨fun h => absurd hm h, fun _ => ⟨rfl, congrArg (fun z => some (Value.int z)) (bi_t (by simp [hasU])).symm, rfl⟩⟩
  refine acw gdX1_hasWholeEdit 60 rfl ⟨fun _ => ?_, fun h => ?_⟩
  rotate_left
  · exact absurd ((neqI (a := m) (b := 0) (by omega) (by omega)).mp (hm.symm.trans h)) h0
  refine ⟨_, _, rfl, vlit (j := 0) (by decide) (by decide), ?_⟩
  have hro : ∀ l, rch n u cv mf l < 64 := fun l => rch_lt hu
  have key := dn (n := m - 1) (P := fun l => AW g mX1_hasWholeEdit (fun r h' => r = some (.int (bi (hasU n m u cv mf))) ∧ h' = lay (S, O)) 0 0 20 [some (.ref 55), some (.int (nI u)), some (.int (nI (rch n u cv mf l))), some (.int (nI l)), none, none] [] (lay (S, O))) ?_ (fun l hl ih => ?_) 0 (Nat.zero_le _)
  · refine awl ?_ key
    have e0 : p_cov (o_Q O) 0 &&& nI u = nI (rch n u cv mf 0) := by
      rw [hcv 0 (by omega), andI _ (msk64 h6) _ hu]; rfl
    rw [← e0]
    rfl
  · refine lpw gdX1_hasWholeEdit 60 ⟨fun _ => ?_, fun h => ?_⟩
    · refine ⟨fun h => ?_, fun h => ?_⟩
      · have h' := (neqI (a := rch n u cv mf (m - 1)) (b := 0) (by have := hro (m - 1); omega) (by omega)).mp h
        exact ⟨rfl, congrArg (fun z => some (Value.int z)) (bi_f (by simp [hasU, h0, h'])).symm, rfl⟩
      · have h' : ¬ rch n u cv mf (m - 1) = 0 := fun z => h (by rw [z]; rfl)
        exact ⟨rfl, congrArg (fun z => some (Value.int z)) (bi_t (by simp [hasU, h'])).symm, rfl⟩
    · refine absurd (show p_nl (o_Q O) ≤ nI (m - 1) + 1 from ?_) h
      rw [hm, nI_1]
      exact nle (by omega) (by omega)
  · have hR := hro l
    refine lpw gdX1_hasWholeEdit 60 ⟨fun h => ?_, fun _ => ?_⟩
    · have h' : p_nl (o_Q O) ≤ nI l + 1 := h
      rw [hm, nI_1] at h'
      exact absurd h' (nge (by omega) (by omega))
    refine dn (n := n) (P := fun s => AW g mX1_hasWholeEdit (fun r h' => r = some (.int (bi (hasU n m u cv mf))) ∧ h' = lay (S, O)) 0 0 36 [some (.ref 55), some (.int (nI u)), some (.int (nI (rch n u cv mf l))), some (.int (nI l)), some (.int (nI (orU n cv mf (rch n u cv mf l) l s))), some (.int (nI s))] [] (lay (S, O))) ?_ (fun s hs ihs => ?_) 0 (Nat.zero_le _)
    · refine lpw gdX1_hasWholeEdit 60 ⟨fun _ => ?_, fun h => absurd (show p_ns (o_Q O) ≤ _ by rw [hn]; exact nle (by omega) (by omega)) h⟩
      refine awf ?_ ih
      have e0 : nI (orU n cv mf (rch n u cv mf l) l n) &&& nI u = nI (rch n u cv mf (l + 1)) := by
        rw [andI _ (orU_lt h6 n) _ hu]; rfl
      rw [← e0, ← nI_1]
      exact ⟨rfl, rfl, rfl, rfl, trivial⟩
    · refine lpw gdX1_hasWholeEdit 60 ⟨fun h => absurd (show p_ns (o_Q O) ≤ _ from h) (by rw [hn]; exact nge (by omega) (by omega)), fun _ => ⟨fun h1 => ?_, fun h1 => ?_⟩⟩
      · have e : ¬ (rch n u cv mf l).testBit s = true := fun z => h1 ((tbI _ hR s (by omega)).mpr z)
        have eo : orU n cv mf (rch n u cv mf l) l (s + 1) = orU n cv mf (rch n u cv mf l) l s := if_neg e
        rw [eo] at ihs
        exact awl (by rw [← nI_1]; rfl) ihs
      · have e := (tbI _ hR s (by omega)).mp h1
        have eo : orU n cv mf (rch n u cv mf l) l (s + 1) = orU n cv mf (rch n u cv mf l) l s ||| msk (fun t => mf l s t && cv (l + 1) t) n := if_pos e
        rw [eo, ← orI _ (orU_lt h6 s) _ (msk64 h6)] at ihs
        refine ⟨3, 8, _, 57 + 1 + l, Or.inr rfl, rfl, vlit (by omega) (by decide), rowF rfl (by omega), ?_⟩
        refine bEl_t (hat_lt (Hfol (S := S) (O := O) (l := l) (by omega))) ⟨6, _, Hfol (by omega), vlit (by omega) (by decide), ?_⟩
        rw [vcl (x := nI s) rfl (by omega), show p_fol (o_Q (S, O).snd) l s = _ from hfo l s (by omega) hs]
        exact awl (by rw [← nI_1]; rfl) ihs
/-- who may follow -/
abbrev mfA (pl fc sp : Fn) (l s t : Nat) : Bool := (decide (s = t) || cnA pl fc s t) && !(reA fc sp l s && reA fc sp (l + 1) t)
theorem ac_followersOf {n l s : Nat} (hl : l + 1 < 8) (h6 : n ≤ 6) (hs : s < n) (hn : p_ns (o_Q O) = nI n) (hp : p_par (o_Q O) s = nI (msk (fun t => cnA (s_pl S) (s_fc S) s t) n)) (hc : p_cov (o_Q O) (l + 1) = nI (msk (fun t => cvA (s_fc S) t (l + 1)) n)) : ACe g mX1_followersOf [.ref 55, .ref 1, .int (nI l), .int (nI s)] (lay (S, O)) (some (.int (nI (msk (fun t => mfA (s_pl S) (s_fc S) (s_sp S) l s t && cvA (s_fc S) t (l + 1)) n)))) (lay (S, O)) := by
  have e1 : nI l + 1 = nI (l + 1) := nI_1 l
  have eb : (p_par (o_Q O) s ||| (1 <<< (nI s &&& 31))) &&& p_cov (o_Q O) (l + 1) = nI (msk (fun t => (decide (s = t) || cnA (s_pl S) (s_fc S) s t) && cvA (s_fc S) t (l + 1)) n) := by
    rw [hp, hc, shlI s (by omega), orI _ (msk64 h6) _ (pow64 (by omega)), andI _ (or_lt64 (msk64 h6) (pow64 (by omega))) _ (msk64 h6), msk_or1 hs, msk_and]
  refine acw gdX1_followersOf 60 rfl ?_
  refine ⟨_, _, rfl, vlit (by omega) (by decide), ?_⟩
  refine ⟨_, _, rfl, vin e1 (by omega) (by decide), ?_⟩
  rw [vcl (x := nI s) rfl (by omega), vcl e1 (by omega)]
  refine ac_to (ac_isReaction (l := l) (o := some s) (by omega) (fun v hv => by cases hv; omega)) ⟨fun h => ?_, fun h => ?_⟩
  · have hr : reA (s_fc S) (s_sp S) l s = true := by rw [bi_e0, Bool.not_eq_false] at h; exact h
    have key := dn (n := n) (P := fun i => AW g mX1_followersOf (fun r h' => r = some (.int (nI (msk (fun t => mfA (s_pl S) (s_fc S) (s_sp S) l s t && cvA (s_fc S) t (l + 1)) n))) ∧ h' = lay (S, O)) 0 0 36 [some (.ref 55), some (.ref 1), some (.int (nI l)), some (.int (nI s)), some (.int (nI (msk (fun t => ((decide (s = t) || cnA (s_pl S) (s_fc S) s t) && cvA (s_fc S) t (l + 1)) && !(decide (t < i) && reA (s_fc S) (s_sp S) (l + 1) t)) n))), some (.int (nI i))] [] (lay (S, O))) ?_ (fun i hi ih => ?_) 0 (Nat.zero_le _)
    · refine awl ?_ key
      rw [msk_cg (q := fun t => (decide (s = t) || cnA (s_pl S) (s_fc S) s t) && cvA (s_fc S) t (l + 1)) n (fun t ht => by simp), ← eb]
      rfl
    · refine lpw gdX1_followersOf 60 ⟨fun _ => ⟨?_, rfl⟩, fun h => absurd (show p_ns (o_Q O) ≤ _ by rw [hn]; exact nle (by omega) (by omega)) h⟩
      refine congrArg (fun z => some (Value.int (nI z))) (msk_cg n (fun t ht => ?_))
      simp only [mfA, hr, ht, decide_true, Bool.true_and]
      cases (decide (s = t) || cnA (s_pl S) (s_fc S) s t) <;> cases cvA (s_fc S) t (l + 1) <;> cases reA (s_fc S) (s_sp S) (l + 1) t <;> rfl
    · refine lpw gdX1_followersOf 60 ⟨fun h => absurd (show p_ns (o_Q O) ≤ _ from h) (by rw [hn]; exact nge (by omega) (by omega)), fun _ => ?_⟩
      refine ac_ar (by rw [e1]; rfl) (ac_to (ac_isReaction (l := l + 1) (o := some i) (by omega) (fun v hv => by cases hv; omega)) ⟨fun h => awl ?_ ih, fun h => awl ?_ ih⟩)
      · have hri : reA (s_fc S) (s_sp S) (l + 1) i = false := (bi_e0 _).mp h
        rw [msk_cg (p := fun t => ((decide (s = t) || cnA (s_pl S) (s_fc S) s t) && cvA (s_fc S) t (l + 1)) && !(decide (t < i + 1) && reA (s_fc S) (s_sp S) (l + 1) t)) (q := fun t => ((decide (s = t) || cnA (s_pl S) (s_fc S) s t) && cvA (s_fc S) t (l + 1)) && !(decide (t < i) && reA (s_fc S) (s_sp S) (l + 1) t)) n (fun t ht => ?_), ← nI_1]
        · rfl
        · by_cases hti : t = i
          · subst hti; simp [hri]
          · have : decide (t < i + 1) = decide (t < i) := by rw [decide_eq_decide]; omega
            rw [this]
      · have hri : reA (s_fc S) (s_sp S) (l + 1) i = true := by rw [bi_e0, Bool.not_eq_false] at h; exact h
        rw [msk_cg (p := fun t => ((decide (s = t) || cnA (s_pl S) (s_fc S) s t) && cvA (s_fc S) t (l + 1)) && !(decide (t < i + 1) && reA (s_fc S) (s_sp S) (l + 1) t)) (q := fun t => (((decide (s = t) || cnA (s_pl S) (s_fc S) s t) && cvA (s_fc S) t (l + 1)) && !(decide (t < i) && reA (s_fc S) (s_sp S) (l + 1) t)) && !decide (t = i)) n (fun t ht => ?_), ← msk_clr h6, ← notI _ (msk64 h6) i (by omega), ← nI_1]
        · rfl
        · by_cases hti : t = i
          · subst hti; simp [hri]
          · have : decide (t < i + 1) = decide (t < i) := by rw [decide_eq_decide]; omega
            rw [this]
            simp [hti]
  · have hr : reA (s_fc S) (s_sp S) l s = false := (bi_e0 _).mp h
    refine ⟨congrArg (fun z => some (Value.int z)) (eb.trans ?_), rfl⟩
    refine congrArg nI (msk_cg n (fun t ht => ?_))
    simp [mfA, hr]
theorem ac_trialIsLower {m : Nat} {a b : Nat → Nat} (hm : p_nl (o_Q O) = nI m) (h8 : m ≤ 8) (ha : ∀ l, l < m → p_tri (o_Q O) l = nI (a l) ∧ a l ≤ 6) (hb : ∀ l, l < m → p_bes (o_Q O) l = nI (b l) ∧ b l ≤ 6) : ACe g mX1_trialIsLower [.ref 55] (lay (S, O)) (some (.int (bi (lowF a b m)))) (lay (S, O)) := by
  refine acw gdX1_trialIsLower 40 rfl ?_
  refine dn (n := m) (P := fun l => (∀ k, k < l → a k = b k) → AW g mX1_trialIsLower _ 0 0 2 [some (.ref 55), some (.int (nI l))] [] (lay (S, O))) (fun hk => ?_) (fun l hl ih hk => ?_) 0 (Nat.zero_le _) (fun k hk => absurd hk (by omega))
  · exact lpw gdX1_trialIsLower 40 ⟨fun _ => ⟨rfl, congrArg (fun z => some (Value.int z)) (bi_f (low_eq hk)).symm, rfl⟩, fun h => absurd (show p_nl (o_Q O) ≤ _ by rw [hm]; exact nle (by omega) (by omega)) h⟩
  · have ea := ha l hl
    have eb := hb l hl
    refine lpw gdX1_trialIsLower 40 ⟨fun h => absurd (show p_nl (o_Q O) ≤ _ from h) (by rw [hm]; exact nge (by omega) (by omega)), fun _ => ?_⟩
    refine ⟨_, _, rfl, vlit (by omega) (by decide), ?_⟩
    refine ⟨_, _, rfl, vlit (by omega) (by decide), ?_⟩
    rw [vcl (x := nI l) rfl (by omega), show p_tri (o_Q (S, O).snd) l = _ from ea.1, show p_bes (o_Q (S, O).snd) l = _ from eb.1]
    refine ⟨fun h => ?_, fun h => ?_⟩
    · have h' := (neqI (by omega) (by omega)).mp h
      refine awl (by rw [← nI_1]; rfl) (ih (fun k hk' => ?_))
      by_cases hkl : k = l
      · subst hkl; exact h'
      · exact hk k (by omega)
    · have h' : a l ≠ b l := fun z => h (by rw [z])
      refine ⟨_, _, rfl, vlit (by omega) (by decide), ?_⟩
      refine ⟨_, _, rfl, vlit (by omega) (by decide), ?_⟩
      rw [vcl (x := nI l) rfl (by omega), show p_tri (o_Q (S, O).snd) l = _ from ea.1, show p_bes (o_Q (S, O).snd) l = _ from eb.1]
      refine ⟨fun h2 => ?_, fun h2 => ?_⟩
      · have h2 := (nleI (by omega) (by omega)).mp h2
        exact ⟨rfl, congrArg (fun z => some (Value.int z)) (bi_f (by rw [low_ne hl hk h']; simp; omega)).symm, rfl⟩
      · have h2 : ¬ b l ≤ a l := fun z => h2 ((nleI (by omega) (by omega)).mpr z)
        exact ⟨rfl, congrArg (fun z => some (Value.int z)) (bi_t (by rw [low_ne hl hk h']; simp; omega)).symm, rfl⟩
end PN
end
section
section SU
variable {g : Glob} {S : Scn} {O : Oth}
set_option maxRecDepth 10000 in
theorem Lpar {f : Fn} : (lay (S, O)).set 75 (ia 6 f) = lay (S, o_Q' O (p_par' (o_Q O) f)) := by rfl
set_option maxRecDepth 10000 in
theorem Lpri {f : Fn} : (lay (S, O)).set 76 (ia 6 f) = lay (S, o_Q' O (p_pri' (o_Q O) f)) := by rfl
set_option maxRecDepth 10000 in
theorem Lcov {f : Fn} : (lay (S, O)).set 56 (ia 8 f) = lay (S, o_Q' O (p_cov' (o_Q O) f)) := by rfl
set_option maxRecDepth 10000 in
theorem Ltri {f : Fn} : (lay (S, O)).set 77 (ia 8 f) = lay (S, o_Q' O (p_tri' (o_Q O) f)) := by rfl
theorem putP_s {α : Type} {P : Nat → α} {i : Nat} {v : α} : putP P i v i = v := if_pos rfl
theorem putP_n {α : Type} {P : Nat → α} {i j : Nat} {v : α} (h : j ≠ i) : putP P i v j = P j := if_neg h
theorem aw_hp {M : Mth} {Post : Option Value → AH → Prop} {cl sl pc : Nat} {ls : List (Option Value)} {st : List Value} {h h' : AH} (e : h = h') (k : AW g M Post cl sl pc ls st h') : AW g M Post cl sl pc ls st h := e ▸ k
abbrev cvL (fc : Fn) (l t : Nat) : Bool := cvA fc t l
theorem ac_study {m n : Nat} (hm : s_nl S = nI m) (h8 : m ≤ 8) (hn : s_ns S = nI n) (h6 : n ≤ 6) (hp : Okp (s_pl S)) (hf : Okf (s_fc S) n) : AC g mX1_study [.ref 55, .ref 1] (lay (S, O)) (fun r h' => r = none ∧ ∃ Q, PS Q m n (cvL (s_fc S)) (mfA (s_pl S) (s_fc S) (s_sp S)) ∧ (∀ s, s < n → p_pri Q s = s_fc S (7 * s + 6)) ∧ h' = lay (S, o_Q' O Q)) := by
  -- followers
  have L3 : ∀ Q : Pln, (p_nl Q = nI m ∧ p_ns Q = nI n ∧ (∀ s, s < n → p_par Q s = nI (msk (fun t => cnA (s_pl S) (s_fc S) s t) n) ∧ p_pri Q s = s_fc S (7 * s + 6)) ∧ (∀ l, l < m → p_cov Q l = nI (msk (cvL (s_fc S) l) n))) → AW g mX1_study (fun r h' => r = none ∧ ∃ Q, PS Q m n (cvL (s_fc S)) (mfA (s_pl S) (s_fc S) (s_sp S)) ∧ (∀ s, s < n → p_pri Q s = s_fc S (7 * s + 6)) ∧ h' = lay (S, o_Q' O Q)) 0 0 85 [some (.ref 55), some (.ref 1), some (.int (nI 0)), none] [] (lay (S, o_Q' O Q)) := by
    intro Q0 hQ0
    have key := dn (n := m - 1) (P := fun l => ∀ Q : Pln, (p_nl Q = nI m ∧ p_ns Q = nI n ∧ (∀ s, s < n → p_par Q s = nI (msk (fun t => cnA (s_pl S) (s_fc S) s t) n) ∧ p_pri Q s = s_fc S (7 * s + 6)) ∧ (∀ l, l < m → p_cov Q l = nI (msk (cvL (s_fc S) l) n))) → (∀ k s, k < l → s < n → p_fol Q k s = nI (msk (fun t => mfA (s_pl S) (s_fc S) (s_sp S) k s t && cvL (s_fc S) (k + 1) t) n)) → AW g mX1_study (fun r h' => r = none ∧ ∃ Q, PS Q m n (cvL (s_fc S)) (mfA (s_pl S) (s_fc S) (s_sp S)) ∧ (∀ s, s < n → p_pri Q s = s_fc S (7 * s + 6)) ∧ h' = lay (S, o_Q' O Q)) 0 0 85 [some (.ref 55), some (.ref 1), some (.int (nI l)), none] [] (lay (S, o_Q' O Q))) ?_ (fun l hl ih => ?_) 0 (Nat.zero_le _)
    · exact key Q0 hQ0 (fun k s hk => absurd hk (by omega))
    · intro Q hQ hF
      refine lpw gdX1_study 60 ⟨fun _ => ?_, fun h => ?_⟩
      · exact ⟨rfl, Q, ⟨hQ.1, hQ.2.1, hQ.2.2.2, fun l s hl hs => hF l s (by omega) hs⟩, fun s hs => (hQ.2.2.1 s hs).2, rfl⟩
      · refine absurd (show p_nl Q ≤ nI (m - 1) + 1 from ?_) h
        rw [hQ.1, nI_1]
        exact nle (by omega) (by omega)
    · intro Q hQ hF
      refine lpw gdX1_study 60 ⟨fun h => ?_, fun _ => ?_⟩
      · have h' : p_nl Q ≤ nI l + 1 := h
        rw [hQ.1, nI_1] at h'
        exact absurd h' (nge (by omega) (by omega))
      have key2 := dn (n := n) (P := fun s => ∀ Q : Pln, (p_nl Q = nI m ∧ p_ns Q = nI n ∧ (∀ s, s < n → p_par Q s = nI (msk (fun t => cnA (s_pl S) (s_fc S) s t) n) ∧ p_pri Q s = s_fc S (7 * s + 6)) ∧ (∀ l, l < m → p_cov Q l = nI (msk (cvL (s_fc S) l) n))) → (∀ k v, (k < l ∨ (k = l ∧ v < s)) → v < n → p_fol Q k v = nI (msk (fun t => mfA (s_pl S) (s_fc S) (s_sp S) k v t && cvL (s_fc S) (k + 1) t) n)) → AW g mX1_study (fun r h' => r = none ∧ ∃ Q, PS Q m n (cvL (s_fc S)) (mfA (s_pl S) (s_fc S) (s_sp S)) ∧ (∀ s, s < n → p_pri Q s = s_fc S (7 * s + 6)) ∧ h' = lay (S, o_Q' O Q)) 0 0 97 [some (.ref 55), some (.ref 1), some (.int (nI l)), some (.int (nI s))] [] (lay (S, o_Q' O Q))) ?_ (fun s hs ihs => ?_) 0 (Nat.zero_le _)
      · exact key2 Q hQ (fun k v hk hv => hF k v (by omega) hv)
      · intro Q hQ hF
        refine lpw gdX1_study 60 ⟨fun _ => ?_, fun h => absurd (show p_ns Q ≤ _ by rw [hQ.2.1]; exact nle (by omega) (by omega)) h⟩
        refine awf ?_ (ih Q hQ (fun k s hk hs => hF k s (by omega) hs))
        rw [← nI_1]
        exact ⟨rfl, rfl, rfl, trivial⟩
      · intro Q hQ hF
        refine lpw gdX1_study 60 ⟨fun h => absurd (show p_ns Q ≤ _ from h) (by rw [hQ.2.1]; exact nge (by omega) (by omega)), fun _ => ?_⟩
        refine ⟨3, 8, _, 57 + 1 + l, Or.inr rfl, rfl, vlit (by omega) (by decide), rowF rfl (by omega), ?_⟩
        refine ac_to (ac_followersOf (g := g) (S := S) (O := o_Q' O Q) (n := n) (l := l) (s := s) (by omega) h6 hs hQ.2.1 (hQ.2.2.1 s hs).1 (hQ.2.2.2 (l + 1) (by omega))) ?_
        refine ⟨6, _, Hfol (by omega), vlit (by omega) (by decide), ?_⟩
        rw [vcl (x := nI s) rfl (by omega)]
        refine aw_hp (Lfol (by omega)) (awl (by rw [← nI_1]; rfl) (ihs (p_fol' Q (putP (p_fol Q) l (upd (p_fol Q l) s (nI (msk (fun t => mfA (s_pl S) (s_fc S) (s_sp S) l s t && cvA (s_fc S) t (l + 1)) n))))) hQ (fun k v hk hv => ?_)))
        show putP (p_fol Q) l (upd (p_fol Q l) s _) k v = _
        by_cases hkl : k = l
        · subst hkl
          rw [putP_s]
          by_cases hvs : v = s
          · subst hvs; rw [pk_us]
          · rw [pk_un hvs]; exact hF k v (by omega) hv
        · rw [putP_n hkl]; exact hF k v (by omega) hv
  -- coverers
  have L2 : ∀ Q : Pln, (p_nl Q = nI m ∧ p_ns Q = nI n ∧ (∀ s, s < n → p_par Q s = nI (msk (fun t => cnA (s_pl S) (s_fc S) s t) n) ∧ p_pri Q s = s_fc S (7 * s + 6))) → AW g mX1_study (fun r h' => r = none ∧ ∃ Q, PS Q m n (cvL (s_fc S)) (mfA (s_pl S) (s_fc S) (s_sp S)) ∧ (∀ s, s < n → p_pri Q s = s_fc S (7 * s + 6)) ∧ h' = lay (S, o_Q' O Q)) 0 0 58 [some (.ref 55), some (.ref 1), some (.int (nI 0)), none] [] (lay (S, o_Q' O Q)) := by
    intro Q0 hQ0
    have key := dn (n := m) (P := fun l => ∀ Q : Pln, (p_nl Q = nI m ∧ p_ns Q = nI n ∧ (∀ s, s < n → p_par Q s = nI (msk (fun t => cnA (s_pl S) (s_fc S) s t) n) ∧ p_pri Q s = s_fc S (7 * s + 6))) → (∀ k, k < l → p_cov Q k = nI (msk (cvL (s_fc S) k) n)) → AW g mX1_study (fun r h' => r = none ∧ ∃ Q, PS Q m n (cvL (s_fc S)) (mfA (s_pl S) (s_fc S) (s_sp S)) ∧ (∀ s, s < n → p_pri Q s = s_fc S (7 * s + 6)) ∧ h' = lay (S, o_Q' O Q)) 0 0 58 [some (.ref 55), some (.ref 1), some (.int (nI l)), none] [] (lay (S, o_Q' O Q))) ?_ (fun l hl ih => ?_) 0 (Nat.zero_le _)
    · exact key Q0 hQ0 (fun k hk => absurd hk (by omega))
    · intro Q hQ hF
      exact lpw gdX1_study 60 ⟨fun _ => L3 Q ⟨hQ.1, hQ.2.1, hQ.2.2, hF⟩, fun h => absurd (show p_nl Q ≤ _ by rw [hQ.1]; exact nle (by omega) (by omega)) h⟩
    · intro Q hQ hF
      refine lpw gdX1_study 60 ⟨fun h => absurd (show p_nl Q ≤ _ from h) (by rw [hQ.1]; exact nge (by omega) (by omega)), fun _ => ?_⟩
      refine ac_to (ac_coverers (g := g) (S := S) (O := o_Q' O Q) (l := l) hn h6) ?_
      refine ⟨_, _, rfl, vlit (by omega) (by decide), ?_⟩
      rw [vcl (x := nI l) rfl (by omega)]
      refine aw_hp Lcov (awl (by rw [← nI_1]; rfl) (ih (p_cov' Q (upd (p_cov Q) l (nI (msk (fun s => cvA (s_fc S) s l) n)))) hQ (fun k hk => ?_)))
      show upd (p_cov Q) l _ k = _
      by_cases hkl : k = l
      · subst hkl; rw [pk_us]
      · rw [pk_un hkl]; exact hF k (by omega)
  -- partners and prices
  have key := dn (n := n) (P := fun i => ∀ Q : Pln, (p_nl Q = nI m ∧ p_ns Q = nI n) → (∀ s, s < i → p_par Q s = nI (msk (fun t => cnA (s_pl S) (s_fc S) s t) n) ∧ p_pri Q s = s_fc S (7 * s + 6)) → AW g mX1_study (fun r h' => r = none ∧ ∃ Q, PS Q m n (cvL (s_fc S)) (mfA (s_pl S) (s_fc S) (s_sp S)) ∧ (∀ s, s < n → p_pri Q s = s_fc S (7 * s + 6)) ∧ h' = lay (S, o_Q' O Q)) 0 0 18 [some (.ref 55), some (.ref 1), some (.int (nI i)), none] [] (lay (S, o_Q' O Q))) ?_ (fun i hi ih => ?_) 0 (Nat.zero_le _)
  · refine acw gdX1_study 60 rfl ?_
    exact key (p_ns' (p_nl' (o_Q O) (s_nl S)) (s_ns S)) ⟨hm, hn⟩ (fun s hs => absurd hs (by omega))
  · intro Q hQ hF
    exact lpw gdX1_study 60 ⟨fun _ => L2 Q ⟨hQ.1, hQ.2, hF⟩, fun h => absurd (show p_ns Q ≤ _ by rw [hQ.2]; exact nle (by omega) (by omega)) h⟩
  · intro Q hQ hF
    refine lpw gdX1_study 60 ⟨fun h => absurd (show p_ns Q ≤ _ from h) (by rw [hQ.2]; exact nge (by omega) (by omega)), fun _ => ?_⟩
    refine ac_to (ac_partners (g := g) (S := S) (O := o_Q' O Q) (s := i) hi h6 hn hp hf) ?_
    refine ⟨_, _, rfl, vlit (by omega) (by decide), ?_⟩
    rw [vcl (x := nI i) rfl (by omega)]
    refine ac_hp Lpar (ac_to (ac_fact (g := g) (S := S) (s := i) (w := 6) (by omega) (by decide)) ?_)
    refine ⟨_, _, rfl, vlit (by omega) (by decide), ?_⟩
    rw [vcl (x := nI i) rfl (by omega)]
    refine aw_hp Lpri (awl (by rw [← nI_1]; rfl) (ih (p_pri' (p_par' Q (upd (p_par Q) i (nI (msk (fun t => cnA (s_pl S) (s_fc S) i t) n)))) (upd (p_pri Q) i (s_fc S (7 * i + 6)))) hQ (fun k hk => ?_)))
    show upd (p_par Q) i _ k = _ ∧ upd (p_pri Q) i _ k = _
    by_cases hki : k = i
    · subst hki; rw [pk_us, pk_us]; exact ⟨rfl, rfl⟩
    · rw [pk_un hki, pk_un hki]; exact hF k (by omega)
end SU
end
section
/-- what the planner keeps while it tries -/
def sameQ (Q Q' : Pln) : Prop := p_nl Q' = p_nl Q ∧ p_ns Q' = p_ns Q ∧ p_cov Q' = p_cov Q ∧ p_fol Q' = p_fol Q ∧ p_pri Q' = p_pri Q ∧ p_bes Q' = p_bes Q ∧ p_bz Q' = p_bz Q ∧ p_bc Q' = p_bc Q
theorem sameQ.ps {Q Q' : Pln} {m n : Nat} {cv : Nat → Nat → Bool} {mf : Nat → Nat → Nat → Bool} (h : sameQ Q Q') (hP : PS Q m n cv mf) : PS Q' m n cv mf := hP.cg h.1 h.2.1 h.2.2.1 h.2.2.2.1
theorem amF_no {c : Nat → Nat} {X : Nat} (p : Nat → Bool) (n : Nat) (h : ∀ t, t < n → p t = false) : amF p c X n = none := by
  rcases mn_spec p c X n with ⟨-, z, -⟩ | ⟨t, z1, z2, -⟩
  · exact z
  · rw [h t z1] at z2; cases z2
theorem dC_100 {n u k l s : Nat} {cv : Nat → Nat → Bool} {mf : Nat → Nat → Nat → Bool} (hk : k < 90) : dC n u cv mf k l s ≤ 100 := by
  rcases dC_b (n := n) (u := u) (cv := cv) (mf := mf) k l s hk with h | h <;> omega
theorem tr_ok {n m u l : Nat} {cv : Nat → Nat → Bool} {mf : Nat → Nat → Nat → Bool} : okO n (tr n m u cv mf l) := by
  cases l with
  | zero => exact amF_ok n
  | succ l =>
    intro s hs
    unfold tr at hs
    split at hs
    · cases hs
    · exact amF_ok n s hs
section TL
variable {g : Glob} {S : Scn} {O : Oth}
theorem ac_planTrial {m n u : Nat} {cv : Nat → Nat → Bool} {mf : Nat → Nat → Nat → Bool} (hP : PS (o_Q O) m n cv mf) (h8 : m ≤ 8) (h6 : n ≤ 6) (hu : u < 64) : AC g mX1_planTrial [.ref 55, .int (nI u)] (lay (S, O)) (fun r h' => r = some (.int (nI (if m = 0 then 0 else trK n m u cv mf))) ∧ ∃ Q, sameQ (o_Q O) Q ∧ (∀ l, l < m → p_tri Q l = sh (tr n m u cv mf l)) ∧ h' = lay (S, o_Q' O Q)) := by
  by_cases h0 : m = 0
  · subst h0
    exact acw gdX1_planTrial 40 rfl ⟨fun h => absurd hP.1 h, fun _ => ⟨rfl, o_Q O, ⟨rfl, rfl, rfl, rfl, rfl, rfl, rfl, rfl⟩, fun l hl => absurd hl (by omega), rfl⟩⟩
  rw [if_neg h0]
  -- the trial
  have LB : ∀ Q : Pln, sameQ (o_Q O) Q → (∀ l s, l < m → s < n → p_cut Q l s = nI (dC n u cv mf (m - 1 - l) l s)) → p_tri Q 0 = sh (tr n m u cv mf 0) → AW g mX1_planTrial (fun r h' => r = some (.int (nI (trK n m u cv mf))) ∧ ∃ Q, sameQ (o_Q O) Q ∧ (∀ l, l < m → p_tri Q l = sh (tr n m u cv mf l)) ∧ h' = lay (S, o_Q' O Q)) 0 0 97 [some (.ref 55), some (.int (nI u)), none, some (.int (nI (trK n m u cv mf))), some (.int (nI 1)), none] [] (lay (S, o_Q' O Q)) := by
    intro Q0 hQ0 hD0 hT0
    have key := dn (n := m - 1) (P := fun i => ∀ Q : Pln, sameQ (o_Q O) Q → (∀ l s, l < m → s < n → p_cut Q l s = nI (dC n u cv mf (m - 1 - l) l s)) → (∀ l, l < i + 1 → p_tri Q l = sh (tr n m u cv mf l)) → AW g mX1_planTrial (fun r h' => r = some (.int (nI (trK n m u cv mf))) ∧ ∃ Q, sameQ (o_Q O) Q ∧ (∀ l, l < m → p_tri Q l = sh (tr n m u cv mf l)) ∧ h' = lay (S, o_Q' O Q)) 0 0 97 [some (.ref 55), some (.int (nI u)), none, some (.int (nI (trK n m u cv mf))), some (.int (nI (i + 1))), none] [] (lay (S, o_Q' O Q))) ?_ (fun i hi ih => ?_) 0 (Nat.zero_le _)
    · exact key Q0 hQ0 hD0 (fun l hl => by rw [show l = 0 by omega]; exact hT0)
    · intro Q hQ hD hT
      have hPQ := hQ.ps hP
      refine lpw gdX1_planTrial 60 ⟨fun _ => ⟨rfl, Q, hQ, fun l hl => hT l (by omega), rfl⟩, fun h => absurd (show p_nl Q ≤ _ by rw [hPQ.1]; exact nle (by omega) (by omega)) h⟩
    · intro Q hQ hD hT
      have hPQ := hQ.ps hP
      have e1 : nI (i + 1) - 1 = nI i := nI_pred i
      have hb : okO 6 (tr n m u cv mf i) := fun s hs => by have := tr_ok s hs; omega
      have J : ∀ a : Nat, a < 64 → amF (fun t => a.testBit t) (fun t => cF (tr n m u cv mf i) t (dC n u cv mf (m - 1 - (i + 1)) (i + 1) t)) 100 n = tr n m u cv mf (i + 1) → AW g mX1_planTrial (fun r h' => r = some (.int (nI (trK n m u cv mf))) ∧ ∃ Q, sameQ (o_Q O) Q ∧ (∀ l, l < m → p_tri Q l = sh (tr n m u cv mf l)) ∧ h' = lay (S, o_Q' O Q)) 0 0 142 [some (.ref 55), some (.int (nI u)), none, some (.int (nI (trK n m u cv mf))), some (.int (nI (i + 1))), some (.int (sh (tr n m u cv mf i)))] [.int (nI a)] (lay (S, o_Q' O Q)) := by
        intro a ha he
        have C1 := ac_cheapestOf (g := g) (S := S) (O := o_Q' O Q) (l := i + 1) (a := a) (b := tr n m u cv mf i) (k := fun t => dC n u cv mf (m - 1 - (i + 1)) (i + 1) t) (by omega) h6 hPQ.2.1 ha hb (fun t ht => ⟨hD (i + 1) t (by omega) ht, dC_100 (by omega)⟩)
        rw [he] at C1
        refine lpw gdX1_planTrial 60 (ac_to C1 ?_)
        refine ⟨_, _, rfl, vlit (by omega) (by decide), ?_⟩
        rw [vcl (x := nI (i + 1)) rfl (by omega)]
        refine aw_hp Ltri (awf ?_ (ih (p_tri' Q (upd (p_tri Q) (i + 1) (sh (tr n m u cv mf (i + 1))))) hQ hD (fun l hl => ?_)))
        · rw [← nI_1 (i + 1)]
          exact ⟨rfl, rfl, rfl, rfl, trivial⟩
        · show upd (p_tri Q) (i + 1) _ l = _
          by_cases hl2 : l = i + 1
          · subst hl2; rw [pk_us]
          · rw [pk_un hl2]; exact hT l (by omega)
      refine lpw gdX1_planTrial 60 ⟨fun h => absurd (show p_nl Q ≤ _ from h) (by rw [hPQ.1]; exact nge (by omega) (by omega)), fun _ => ?_⟩
      refine ⟨_, _, rfl, vin e1 (by omega) (by decide), ?_⟩
      rw [vcl e1 (by omega), show p_tri (o_Q (S, o_Q' O Q).snd) i = _ from hT i (by omega)]
      cases htr : tr n m u cv mf i with
      | none =>
        rw [htr] at J
        refine ⟨fun h => absurd rfl h, fun _ => J 0 (by decide) ?_⟩
        have e : tr n m u cv mf (i + 1) = none := by unfold tr; rw [htr]
        rw [e]
        exact amF_no _ n (fun t _ => Nat.zero_testBit t)
      | some s =>
        have hs := tr_ok s htr
        rw [htr] at J
        refine ⟨fun _ => ?_, fun h => absurd h (nI_ne9 (by omega))⟩
        refine ⟨3, 8, _, 57 + 1 + i, Or.inr rfl, rfl, vin e1 (by omega) (by decide), rowF e1 (by omega), ?_⟩
        refine bEl_t (hat_lt (Hfol (S := S) (O := o_Q' O Q) (l := i) (by omega))) ⟨6, _, Hfol (by omega), vlit (by omega) (by decide), ?_⟩
        have J2 := J (msk (fun t => mf i s t && cv (i + 1) t) n &&& u) (and_lt64 hu) ?_
        · rw [← andI _ (msk64 h6) _ hu, ← hPQ.2.2.2 i s (by omega) hs] at J2
          have e3 : (sh (some s)).toNatClampNeg = s := vcl rfl (by omega)
          rw [e3]
          exact J2
        · have e : tr n m u cv mf (i + 1) = amF (fun t => (mf i s t && cv (i + 1) t) && u.testBit t) (fun t => cF (some s) t (dC n u cv mf (m - 1 - (i + 1)) (i + 1) t)) 100 n := by
            show (match tr n m u cv mf i with | none => none | some s => amF (fun t => (mf i s t && cv (i + 1) t) && u.testBit t) (fun t => cF (some s) t (dC n u cv mf (m - 1 - (i + 1)) (i + 1) t)) 100 n) = _
            rw [htr]
          rw [e]
          exact (mnF_cg n (fun t ht => ⟨by rw [Nat.testBit_and, tb_msk]; simp [ht], rfl⟩)).2
  -- its beginning
  have LS : ∀ Q : Pln, sameQ (o_Q O) Q → (∀ l s, l < m → s < n → p_cut Q l s = nI (dC n u cv mf (m - 1 - l) l s)) → AW g mX1_planTrial (fun r h' => r = some (.int (nI (trK n m u cv mf))) ∧ ∃ Q, sameQ (o_Q O) Q ∧ (∀ l, l < m → p_tri Q l = sh (tr n m u cv mf l)) ∧ h' = lay (S, o_Q' O Q)) 0 0 16 [some (.ref 55), some (.int (nI u)), some (.int (-1)), none, none, none] [] (lay (S, o_Q' O Q)) := by
    intro Q hQ hD
    have hPQ := hQ.ps hP
    have C1 := ac_cheapestOf (g := g) (S := S) (O := o_Q' O Q) (l := 0) (a := msk (cv 0) n &&& u) (b := none) (k := fun t => dC n u cv mf (m - 1) 0 t) (by omega) h6 hPQ.2.1 (and_lt64 hu) (fun s hs => by cases hs) (fun t ht => ⟨hD 0 t (by omega) ht, dC_100 (by omega)⟩)
    have e : amF (fun t => (msk (cv 0) n &&& u).testBit t) (fun t => cF none t (dC n u cv mf (m - 1) 0 t)) 100 n = tr n m u cv mf 0 := by
      unfold tr
      exact (mnF_cg n (fun t ht => ⟨by rw [Nat.testBit_and, tb_msk]; simp [ht], rfl⟩)).2
    rw [e, ← andI _ (msk64 h6) _ hu, ← hPQ.2.2.1 0 (by omega)] at C1
    have hLB := LB (p_tri' Q (upd (p_tri Q) 0 (sh (tr n m u cv mf 0)))) hQ hD (by show upd (p_tri Q) 0 _ 0 = _; exact pk_us)
    refine lpw gdX1_planTrial 60 ⟨fun _ => ?_, fun h => absurd (by decide) h⟩
    refine ⟨_, _, rfl, vlit (j := 0) (by decide) (by decide), ?_⟩
    refine ac_to C1 ?_
    refine ⟨_, _, rfl, vlit (j := 0) (by decide) (by decide), ?_⟩
    refine ⟨_, _, rfl, vlit (j := 0) (by decide) (by decide), ?_⟩
    rw [show (0 : Int32).toNatClampNeg = 0 from rfl, pk_us]
    have C2 : ACe g mX1_cutsFrom [.ref 55, .int (nI 0), .int (sh (tr n m u cv mf 0)), .int (-9)] (lay (S, o_Q' O (p_tri' Q (upd (p_tri Q) 0 (sh (tr n m u cv mf 0)))))) (some (.int (nI (trK n m u cv mf)))) (lay (S, o_Q' O (p_tri' Q (upd (p_tri Q) 0 (sh (tr n m u cv mf 0)))))) := by
      generalize upd (p_tri Q) 0 (sh (tr n m u cv mf 0)) = T
      unfold trK
      cases h : tr n m u cv mf 0 with
      | none => exact ac_cutsFrom0
      | some s =>
        have hs := tr_ok s h
        exact ac_cutsFrom (b := none) (by omega) (by omega) (fun s hs => by cases hs) (hD 0 s (by omega) hs) (dC_100 (by omega))
    generalize upd (p_tri Q) 0 (sh (tr n m u cv mf 0)) = T at C2 hLB ⊢
    refine ac_hp Ltri (ac_to C2 ?_)
    refine awf ?_ hLB
    exact ⟨rfl, rfl, rfl, rfl, trivial⟩
  -- the fewest cuts behind
  have key := dn (n := m) (P := fun j => ∀ Q : Pln, sameQ (o_Q O) Q → (∀ l s, m - j ≤ l → l < m → s < n → p_cut Q l s = nI (dC n u cv mf (m - 1 - l) l s)) → AW g mX1_planTrial (fun r h' => r = some (.int (nI (trK n m u cv mf))) ∧ ∃ Q, sameQ (o_Q O) Q ∧ (∀ l, l < m → p_tri Q l = sh (tr n m u cv mf l)) ∧ h' = lay (S, o_Q' O Q)) 0 0 16 [some (.ref 55), some (.int (nI u)), some (.int (nI (m - j) - 1)), none, none, none] [] (lay (S, o_Q' O Q))) ?_ (fun j hj ih => ?_) 0 (Nat.zero_le _)
  · refine acw gdX1_planTrial 60 rfl ⟨fun _ => ?_, fun h => ?_⟩
    · refine awl ?_ (key (o_Q O) ⟨rfl, rfl, rfl, rfl, rfl, rfl, rfl, rfl⟩ (fun l s h1 h2 => absurd h1 (by omega)))
      rw [Nat.sub_zero, ← hP.1]
      rfl
    · exact absurd ((neqI (a := m) (b := 0) (by omega) (by omega)).mp (hP.1.symm.trans h)) h0
  · intro Q hQ hD
    rw [Nat.sub_self]
    exact LS Q hQ (fun l s hl hs => hD l s (by omega) hl hs)
  · intro Q hQ hD
    obtain ⟨l, hl⟩ : ∃ l, m - j = l + 1 := ⟨m - j - 1, by omega⟩
    rw [hl, nI_pred]
    rw [show m - (j + 1) = l by omega] at ih
    refine lpw gdX1_planTrial 60 ⟨fun h => absurd h (nlt0 l (by omega)), fun _ => ?_⟩
    have key2 := dn (n := n) (P := fun s => ∀ Q : Pln, sameQ (o_Q O) Q → (∀ k v, l ≤ k → k < m → v < n → (k = l → v < s) → p_cut Q k v = nI (dC n u cv mf (m - 1 - k) k v)) → AW g mX1_planTrial (fun r h' => r = some (.int (nI (trK n m u cv mf))) ∧ ∃ Q, sameQ (o_Q O) Q ∧ (∀ l, l < m → p_tri Q l = sh (tr n m u cv mf l)) ∧ h' = lay (S, o_Q' O Q)) 0 0 22 [some (.ref 55), some (.int (nI u)), some (.int (nI l)), some (.int (nI s)), none, none] [] (lay (S, o_Q' O Q))) ?_ (fun s hs ihs => ?_) 0 (Nat.zero_le _)
    · exact key2 Q hQ (fun k v h1 h2 h3 h4 => hD k v (Nat.le_of_not_lt (fun z => absurd (h4 (by omega)) (by omega))) h2 h3)
    · intro Q hQ hD
      have hPQ := hQ.ps hP
      refine lpw gdX1_planTrial 60 ⟨fun _ => ?_, fun h => absurd (show p_ns Q ≤ _ by rw [hPQ.2.1]; exact nle (by omega) (by omega)) h⟩
      refine awf ?_ (ih Q hQ (fun k v h1 h2 h3 => hD k v h1 h2 h3 (fun _ => h3)))
      exact ⟨rfl, rfl, congrArg Value.int (Int32.sub_eq_add_neg _ _), trivial⟩
    · intro Q hQ hD
      have hPQ := hQ.ps hP
      have CF : ACe g mX1_fewestBehind [.ref 55, .int (nI l), .int (nI s), .int (nI u)] (lay (S, o_Q' O Q)) (some (.int (nI (dC n u cv mf (m - 1 - l) l s)))) (lay (S, o_Q' O Q)) := by
        by_cases hlm : l = m - 1
        · have e : m - 1 - l = 0 := by omega
          rw [e]
          refine ac_fewest0 (m := l) ?_
          rw [show l + 1 = m by omega]
          exact hPQ.1
        · obtain ⟨k, hk⟩ : ∃ k, m - 1 - l = k + 1 := ⟨m - 1 - l - 1, by omega⟩
          rw [hk]
          exact ac_fewest (k := fun t => dC n u cv mf k (l + 1) t) hPQ h8 h6 (by omega) hs hu (fun t ht => ⟨by have := hD (l + 1) t (by omega) (by omega) ht (fun z => by omega); rw [show m - 1 - (l + 1) = k by omega] at this; exact this, dC_100 (by omega)⟩)
      refine lpw gdX1_planTrial 60 ⟨fun h => absurd (show p_ns Q ≤ _ from h) (by rw [hPQ.2.1]; exact nge (by omega) (by omega)), fun _ => ?_⟩
      refine ⟨3, 8, _, 66 + 1 + l, Or.inr rfl, rfl, vlit (by omega) (by decide), rowC rfl (by omega), ?_⟩
      refine ac_to CF ?_
      refine ⟨6, _, Hcut (by omega), vlit (by omega) (by decide), ?_⟩
      rw [vcl (x := nI s) rfl (by omega)]
      refine aw_hp (Lcut (by omega)) (awl (by rw [← nI_1]; rfl) (ihs (p_cut' Q (putP (p_cut Q) l (upd (p_cut Q l) s (nI (dC n u cv mf (m - 1 - l) l s))))) hQ (fun k v h1 h2 h3 h4 => ?_)))
      show putP (p_cut Q) l (upd (p_cut Q l) s _) k v = _
      by_cases hkl : k = l
      · subst hkl
        rw [putP_s]
        by_cases hvs : v = s
        · subst hvs; rw [pk_us]
        · rw [pk_un hvs]; exact hD k v h1 h2 h3 (fun z => by have := h4 z; omega)
      · rw [putP_n hkl]; exact hD k v h1 h2 h3 (fun z => absurd z hkl)
end TL
end
section
/-! ===== dear: what sums there are ===== -/
def dl (k : Nat) : List Nat := match k with
  | 0 => [0]
  | 1 => [0, 1051372203, 1059760811, 1065353216, 1068149419, 1070945621, 1073741824, 1075139925, 1076538027, 1077936128]
  | 2 => [0, 1051372203, 1059760811, 1065353216, 1068149419, 1070945621, 1070945622, 1073741824, 1075139925, 1075139926, 1076538026, 1076538027, 1077936128, 1079334229, 1079334230, 1080732330, 1080732331, 1082130432, 1082829482, 1082829483, 1083528533, 1083528534, 1084227584, 1084926634, 1084926635, 1085625686, 1086324736]
  | 3 => [0, 1051372203, 1059760811, 1065353216, 1068149419, 1070945621, 1070945622, 1073741824, 1075139925, 1075139926, 1076538026, 1076538027, 1077936127, 1077936128, 1077936129, 1079334229, 1079334230, 1080732330, 1080732331, 1080732332, 1082130431, 1082130432, 1082829482, 1082829483, 1083528533, 1083528534, 1084227583, 1084227584, 1084227585, 1084926634, 1084926635, 1085625685, 1085625686, 1086324735, 1086324736, 1086324737, 1087023786, 1087023787, 1087722836, 1087722837, 1087722838, 1088421887, 1088421888, 1088421889, 1089120938, 1089120939, 1089120940, 1089819988, 1089819989, 1089819990, 1090519040, 1090868565, 1090868566, 1091218091, 1091567616]
  | 4 => [0, 1051372203, 1059760811, 1065353216, 1068149419, 1070945621, 1070945622, 1073741824, 1075139925, 1075139926, 1076538026, 1076538027, 1077936127, 1077936128, 1077936129, 1079334228, 1079334229, 1079334230, 1080732330, 1080732331, 1080732332, 1082130431, 1082130432, 1082130433, 1082829482, 1082829483, 1083528533, 1083528534, 1084227583, 1084227584, 1084227585, 1084926634, 1084926635, 1084926636, 1085625684, 1085625685, 1085625686, 1086324735, 1086324736, 1086324737, 1087023786, 1087023787, 1087023788, 1087722836, 1087722837, 1087722838, 1088421887, 1088421888, 1088421889, 1089120937, 1089120938, 1089120939, 1089120940, 1089819988, 1089819989, 1089819990, 1089819991, 1090519039, 1090519040, 1090519041, 1090868565, 1090868566, 1091218090, 1091218091, 1091567615, 1091567616, 1091567617, 1091917141, 1091917142, 1092266666, 1092266667, 1092616191, 1092616192, 1092616193, 1092965717, 1092965718, 1093315242, 1093315243, 1093664768, 1093664769, 1094014293, 1094014294, 1094363819, 1094713344]
  | 5 => [0, 1051372203, 1059760811, 1065353216, 1068149419, 1070945621, 1070945622, 1073741824, 1075139925, 1075139926, 1076538026, 1076538027, 1077936127, 1077936128, 1077936129, 1079334228, 1079334229, 1079334230, 1080732329, 1080732330, 1080732331, 1080732332, 1082130431, 1082130432, 1082130433, 1082829482, 1082829483, 1082829484, 1083528533, 1083528534, 1084227583, 1084227584, 1084227585, 1084926634, 1084926635, 1084926636, 1085625684, 1085625685, 1085625686, 1085625687, 1086324735, 1086324736, 1086324737, 1087023785, 1087023786, 1087023787, 1087023788, 1087722836, 1087722837, 1087722838, 1087722839, 1088421887, 1088421888, 1088421889, 1089120937, 1089120938, 1089120939, 1089120940, 1089819988, 1089819989, 1089819990, 1089819991, 1090519038, 1090519039, 1090519040, 1090519041, 1090868564, 1090868565, 1090868566, 1091218090, 1091218091, 1091218092, 1091567615, 1091567616, 1091567617, 1091917140, 1091917141, 1091917142, 1092266666, 1092266667, 1092266668, 1092616191, 1092616192, 1092616193, 1092965716, 1092965717, 1092965718, 1093315242, 1093315243, 1093315244, 1093664767, 1093664768, 1093664769, 1094014292, 1094014293, 1094014294, 1094363818, 1094363819, 1094363820, 1094713343, 1094713344, 1094713345, 1095062868, 1095062869, 1095062870, 1095412394, 1095412395, 1095412396, 1095761919, 1095761920, 1095761921, 1096111445, 1096111446, 1096460970, 1096460971, 1096460972, 1096810496, 1096810497, 1097160021, 1097160022, 1097509547, 1097859072]
  | _ => [0, 1051372203, 1059760811, 1065353216, 1068149419, 1070945621, 1070945622, 1073741824, 1075139925, 1075139926, 1076538026, 1076538027, 1077936127, 1077936128, 1077936129, 1079334228, 1079334229, 1079334230, 1080732329, 1080732330, 1080732331, 1080732332, 1082130430, 1082130431, 1082130432, 1082130433, 1082829482, 1082829483, 1082829484, 1083528532, 1083528533, 1083528534, 1083528535, 1084227583, 1084227584, 1084227585, 1084926634, 1084926635, 1084926636, 1085625684, 1085625685, 1085625686, 1085625687, 1086324735, 1086324736, 1086324737, 1086324738, 1087023785, 1087023786, 1087023787, 1087023788, 1087722836, 1087722837, 1087722838, 1087722839, 1088421886, 1088421887, 1088421888, 1088421889, 1088421890, 1089120937, 1089120938, 1089120939, 1089120940, 1089819988, 1089819989, 1089819990, 1089819991, 1090519038, 1090519039, 1090519040, 1090519041, 1090868564, 1090868565, 1090868566, 1091218089, 1091218090, 1091218091, 1091218092, 1091567615, 1091567616, 1091567617, 1091917140, 1091917141, 1091917142, 1091917143, 1092266665, 1092266666, 1092266667, 1092266668, 1092616191, 1092616192, 1092616193, 1092965716, 1092965717, 1092965718, 1092965719, 1093315241, 1093315242, 1093315243, 1093315244, 1093664767, 1093664768, 1093664769, 1094014292, 1094014293, 1094014294, 1094014295, 1094363817, 1094363818, 1094363819, 1094363820, 1094713343, 1094713344, 1094713345, 1095062868, 1095062869, 1095062870, 1095062871, 1095412393, 1095412394, 1095412395, 1095412396, 1095761919, 1095761920, 1095761921, 1096111444, 1096111445, 1096111446, 1096111447, 1096460969, 1096460970, 1096460971, 1096460972, 1096810495, 1096810496, 1096810497, 1097160020, 1097160021, 1097160022, 1097160023, 1097509545, 1097509546, 1097509547, 1097509548, 1097859071, 1097859072, 1097859073, 1098208596, 1098208597, 1098208598, 1098208599, 1098558122, 1098558123, 1098558124, 1098907647, 1098907648, 1098907649, 1099082410, 1099082411, 1099257173, 1099257174, 1099431936, 1099606698, 1099606699, 1099781461, 1099781462, 1099956224]
def th3 (q : Nat) : UInt32 := FP.fdiv (FP.i2f (nI q)) (UInt32.ofNat 1077936128)
def dchk (k : Nat) : Bool := (dl k).all fun a => (dl (k + 1)).elem a && (List.range 10).all fun q => (dl (k + 1)).elem (FP.fadd (UInt32.ofNat a) (th3 q)).toNat
theorem dchk_ok : ∀ k : Nat, k < 6 → dchk k = true := by decide +kernel
theorem dl_n : ∀ a ∈ dl 6, vf_n32 (UInt32.ofNat a) ∧ vf_n32 (FP.fmul (UInt32.ofNat 1148846080) (UInt32.ofNat a)) := by
  unfold vf_n32
  decide +kernel
theorem th_n : ∀ q : Nat, q < 10 → vf_n32 (th3 q) := by
  unfold vf_n32
  decide +kernel
theorem dl_up {k : Nat} (hk : k < 6) {a : Nat} (h : a ∈ dl k) : a ∈ dl (k + 1) := by
  have h1 := dchk_ok k hk
  unfold dchk at h1
  rw [List.all_eq_true] at h1
  have h2 := h1 a h
  rw [Bool.and_eq_true] at h2
  simpa using h2.1
theorem dl_st {k : Nat} (hk : k < 6) {x : UInt32} (h : x.toNat ∈ dl k) {q : Nat} (hq : q < 10) : (FP.fadd x (th3 q)).toNat ∈ dl (k + 1) := by
  have h1 := dchk_ok k hk
  unfold dchk at h1
  rw [List.all_eq_true] at h1
  have h2 := h1 _ h
  rw [Bool.and_eq_true, List.all_eq_true] at h2
  have h3 := h2.2 q (List.mem_range.mpr hq)
  rw [UInt32.ofNat_toNat] at h3
  simpa using h3
theorem dl_6 {k : Nat} (hk : k ≤ 6) {a : Nat} (h : a ∈ dl k) : a ∈ dl 6 := by
  obtain ⟨j, hj⟩ : ∃ j, k + j = 6 := ⟨6 - k, by omega⟩
  induction j generalizing k with
  | zero => rw [Nat.add_zero] at hj; subst hj; exact h
  | succ j ih => exact ih (k := k + 1) (by omega) (dl_up (by omega) h) (by omega)
/-- what a set of shots costs -/
def dF (pr : Nat → Int32) (u : Nat) : Nat → UInt32
  | 0 => FP.fconst0
  | i + 1 => if u.testBit i then FP.fadd (dF pr u i) (FP.fdiv (FP.i2f (pr i)) (UInt32.ofNat 1077936128)) else dF pr u i
theorem dF_in {pr : Nat → Int32} {u n : Nat} (h6 : n ≤ 6) (hp : ∀ s, s < n → ∃ q : Nat, q ≤ 9 ∧ pr s = nI q) : ∀ i, i ≤ n → (dF pr u i).toNat ∈ dl i := by
  intro i
  induction i with
  | zero => intro _; show (FP.fconst0).toNat ∈ dl 0; decide +kernel
  | succ i ih =>
    intro hi
    unfold dF
    split
    · obtain ⟨q, h1, h2⟩ := hp i (by omega)
      rw [h2]
      exact dl_st (by omega) (ih (by omega)) (by omega)
    · exact dl_up (by omega) (ih (by omega))
theorem dF_n {pr : Nat → Int32} {u n i : Nat} (h6 : n ≤ 6) (hp : ∀ s, s < n → ∃ q : Nat, q ≤ 9 ∧ pr s = nI q) (hi : i ≤ n) : vf_n32 (dF pr u i) ∧ vf_n32 (FP.fmul (UInt32.ofNat 1148846080) (dF pr u i)) := by
  have h1 := dF_in (u := u) h6 hp i hi
  have h2 := dl_n _ (dl_6 (k := i) (by omega) h1)
  rw [UInt32.ofNat_toNat] at h2
  exact h2
section DR
variable {g : Glob} {S : Scn} {O : Oth}
theorem ac_dear {n u : Nat} {pr : Nat → Int32} (h6 : n ≤ 6) (hu : u < 64) (hn : p_ns (o_Q O) = nI n) (hp : ∀ s, s < n → ∃ q : Nat, q ≤ 9 ∧ pr s = nI q) (hq : ∀ s, s < n → p_pri (o_Q O) s = pr s) : ACe g mX1_dear [.ref 55, .int (nI u)] (lay (S, O)) (some (.float (dF pr u n))) (lay (S, O)) := by
  refine acw gdX1_dear 40 rfl ?_
  refine dn (n := n) (P := fun i => AW g mX1_dear _ 0 0 4 [some (.ref 55), some (.int (nI u)), some (.float (dF pr u i)), some (.int (nI i))] [] (lay (S, O))) ?_ (fun i hi ih => ?_) 0 (Nat.zero_le _)
  · exact lpw gdX1_dear 40 ⟨fun _ => ⟨rfl, rfl⟩, fun h => absurd (show p_ns (o_Q O) ≤ _ by rw [hn]; exact nle (by omega) (by omega)) h⟩
  · refine lpw gdX1_dear 40 ⟨fun h => absurd (show p_ns (o_Q O) ≤ _ from h) (by rw [hn]; exact nge (by omega) (by omega)), fun _ => ⟨fun h1 => ?_, fun h1 => ?_⟩⟩
    · have e : ¬ u.testBit i = true := fun z => h1 ((tbI u hu i (by omega)).mpr z)
      have ed : dF pr u (i + 1) = dF pr u i := if_neg e
      rw [ed] at ih
      exact awl (by rw [← nI_1]; rfl) ih
    · have e := (tbI u hu i (by omega)).mp h1
      have ed : dF pr u (i + 1) = FP.fadd (dF pr u i) (FP.fdiv (FP.i2f (pr i)) (UInt32.ofNat 1077936128)) := if_pos e
      have hv := (dF_n (u := u) (i := i + 1) h6 hp (by omega)).1
      rw [ed] at ih hv
      obtain ⟨q, hq1, hq2⟩ := hp i hi
      have ht := th_n q (by omega)
      unfold th3 at ht
      rw [← hq2] at ht
      refine ⟨_, _, rfl, vlit (by omega) (by decide), ?_⟩
      rw [vcl (x := nI i) rfl (by omega), show p_pri (o_Q (S, O).snd) i = _ from hq i hi]
      refine ⟨ht, hv, ?_⟩
      exact awl (by rw [← nI_1]; rfl) ih
theorem am_dearOf {n u : Nat} (h6 : n ≤ 6) (hu : u < 64) (hn : z_now (o_M O) 13 = nI n) (hp : ∀ s, s < n → ∃ q : Nat, q ≤ 9 ∧ fcr (z_now (o_M O)) (7 * s + 6) = nI q) : ACe g mX6_dearOf [.ref 94, .int (nI u)] (lay (S, O)) (some (.float (dF (fun s => fcr (z_now (o_M O)) (7 * s + 6)) u n))) (lay (S, O)) := by
  refine acw gdX6_dearOf 40 rfl ?_
  refine dn (n := n) (P := fun i => AW g mX6_dearOf _ 0 0 4 [some (.ref 94), some (.int (nI u)), some (.float (dF (fun s => fcr (z_now (o_M O)) (7 * s + 6)) u i)), some (.int (nI i))] [] (lay (S, O))) ?_ (fun i hi ih => ?_) 0 (Nat.zero_le _)
  · refine lpw gdX6_dearOf 40 ⟨_, _, rfl, vlit (j := 13) (by decide) (by decide), ?_⟩
    exact ⟨fun _ => ⟨rfl, rfl⟩, fun h => absurd (show z_now (o_M O) 13 ≤ _ by rw [hn]; exact nle (by omega) (by omega)) h⟩
  · refine lpw gdX6_dearOf 40 ⟨_, _, rfl, vlit (j := 13) (by decide) (by decide), ?_⟩
    refine ⟨fun h => absurd (show z_now (o_M O) 13 ≤ _ from h) (by rw [hn]; exact nge (by omega) (by omega)), fun _ => ⟨fun h1 => ?_, fun h1 => ?_⟩⟩
    · have e : ¬ u.testBit i = true := fun z => h1 ((tbI u hu i (by omega)).mpr z)
      have ed : dF (fun s => fcr (z_now (o_M O)) (7 * s + 6)) u (i + 1) = dF (fun s => fcr (z_now (o_M O)) (7 * s + 6)) u i := if_neg e
      rw [ed] at ih
      exact awl (by rw [← nI_1]; rfl) ih
    · have e := (tbI u hu i (by omega)).mp h1
      have ed : dF (fun s => fcr (z_now (o_M O)) (7 * s + 6)) u (i + 1) = FP.fadd (dF (fun s => fcr (z_now (o_M O)) (7 * s + 6)) u i) (FP.fdiv (FP.i2f (fcr (z_now (o_M O)) (7 * i + 6))) (UInt32.ofNat 1077936128)) := if_pos e
      have hv := (dF_n (u := u) (i := i + 1) (pr := fun s => fcr (z_now (o_M O)) (7 * s + 6)) h6 hp (by omega)).1
      rw [ed] at ih hv
      obtain ⟨q, hq1, hq2⟩ := hp i hi
      have ht := th_n q (by omega)
      unfold th3 at ht
      rw [← hq2] at ht
      refine ac_to (am_of (s := i) (w := 6) (by omega) (by decide)) ?_
      refine ⟨ht, hv, ?_⟩
      exact awl (by rw [← nI_1]; rfl) ih
end DR
end
section
section BS
variable (n m : Nat) (cv : Nat → Nat → Bool) (mf : Nat → Nat → Nat → Bool)
def tk (u : Nat) : Nat := if m = 0 then 0 else trK n m u cv mf
def tw (u l : Nat) : Nat := (tr n m u cv mf l).getD 0
def ltU (u v : Nat) : Bool := decide (tk n m cv mf u < tk n m cv mf v) || (decide (tk n m cv mf u = tk n m cv mf v) && lowF (tw n m cv mf u) (tw n m cv mf v) m)
/-- the best of the sets of a size, up to a set -/
def fsF (z : Nat) : Nat → Option Nat
  | 0 => none
  | u + 1 => if decide (pop6 u = z) && hasU n m u cv mf then (match fsF z u with
    | none => some u
    | some v => if ltU n m cv mf u v then some u else some v) else fsF z u
def fbF : Nat → Nat → Option (Nat × Nat)
  | 0, _ => none
  | k + 1, z => match fsF n m cv mf z (2 ^ n) with
    | some v => some (z, v)
    | none => fbF k (z + 1)
/-- the cheapest set, up to a set -/
def lessF (x y : UInt32) : Bool := decide (Op.cmpValue (FP.fcmp x y) .g < 0)
def chF (pr : Nat → Int32) : Nat → Option Nat
  | 0 => none
  | u + 1 => match chF pr u with
    | none => if hasU n m u cv mf then some u else none
    | some v => if lessF (dF pr u n) (dF pr v n) && hasU n m u cv mf then some u else some v
end BS
section BT
variable {n m : Nat} {cv : Nat → Nat → Bool} {mf : Nat → Nat → Nat → Bool}
theorem tb_lt {u t n : Nat} (h : u < 2 ^ n) (ht : u.testBit t = true) : t < n := by
  apply Nat.lt_of_not_le
  intro z
  have : u.testBit t = false := Nat.testBit_lt_two_pow (Nat.lt_of_lt_of_le h (Nat.pow_le_pow_right (by decide) z))
  rw [this] at ht
  cases ht
theorem p64 {n : Nat} (h : n ≤ 6) : 2 ^ n ≤ 64 := (Nat.pow_le_pow_right (by decide) h : 2 ^ n ≤ 2 ^ 6)
theorem has_tw {u : Nat} (hu : u < 2 ^ n) (h6 : n ≤ 6) (h8 : m ≤ 8) (hh : hasU n m u cv mf = true) : (∀ l, l < m → tr n m u cv mf l = some (tw n m cv mf u l) ∧ tw n m cv mf u l < n ∧ (u.testBit (tw n m cv mf u l) && cv l (tw n m cv mf u l)) = true) ∧ wayOk (n := n) (m := m) (u := u) (cv := cv) (mf := mf) (tw n m cv mf u) ∧ tk n m cv mf u = wC m u cv mf := by
  obtain ⟨w, h1, h2, h3⟩ := tr_way (fun t ht => tb_lt hu ht) h6 (by omega) hh
  have hw : ∀ l, l < m → w l = tw n m cv mf u l := fun l hl => by
    unfold tw
    rw [(h1 l hl).1]
    rfl
  refine ⟨fun l hl => ?_, ?_, ?_⟩
  · rw [← hw l hl]; exact h1 l hl
  · refine ⟨fun h => ?_, fun l hl => ?_⟩
    · rw [← hw 0 h]; exact h2.1 h
    · rw [← hw l (by omega), ← hw (l + 1) hl]; exact h2.2 l hl
  · unfold tk
    by_cases h0 : m = 0
    · rw [if_pos h0]; unfold wC; rw [if_pos h0]
    · rw [if_neg h0]; exact h3 (by omega)
theorem tk_le {u : Nat} (h6 : n ≤ 6) (h8 : m ≤ 8) : tk n m cv mf u ≤ 100 := by
  unfold tk
  split
  · omega
  · unfold trK
    split
    · omega
    · exact cF_le
theorem fs_in {z : Nat} : ∀ u v, fsF n m cv mf z u = some v → v < u ∧ hasU n m v cv mf = true := by
  intro u
  induction u with
  | zero => intro v h; cases h
  | succ u ih =>
    intro v h
    unfold fsF at h
    split at h
    · rename_i hc
      rw [Bool.and_eq_true] at hc
      split at h
      · cases h; exact ⟨by omega, hc.2⟩
      · rename_i w hw
        split at h
        · cases h; exact ⟨by omega, hc.2⟩
        · cases h
          have := ih v hw
          exact ⟨by omega, this.2⟩
    · have := ih v h
      exact ⟨by omega, this.2⟩
theorem fs_no {z u : Nat} (h : (decide (pop6 u = z) && hasU n m u cv mf) = false) : fsF n m cv mf z (u + 1) = fsF n m cv mf z u := if_neg (by rw [h]; decide)
theorem fs_ye {z u : Nat} (h1 : pop6 u = z) (h2 : hasU n m u cv mf = true) (h3 : ∀ v, fsF n m cv mf z u = some v → ltU n m cv mf u v = true) : fsF n m cv mf z (u + 1) = some u := by
  unfold fsF
  rw [if_pos (by simp [h1, h2])]
  split
  · rfl
  · rename_i v hv
    rw [if_pos (h3 v hv)]
theorem fs_st {z u v : Nat} (h1 : fsF n m cv mf z u = some v) (h3 : ltU n m cv mf u v = false) : fsF n m cv mf z (u + 1) = some v := by
  unfold fsF
  split
  · rw [h1]
    exact if_neg (by rw [h3]; decide)
  · exact h1
theorem fb_in : ∀ k z a v, fbF n m cv mf k z = some (a, v) → a < z + k ∧ v < 2 ^ n ∧ hasU n m v cv mf = true := by
  intro k
  induction k with
  | zero => intro z a v h; cases h
  | succ k ih =>
    intro z a v h
    unfold fbF at h
    split at h
    · rename_i w hw
      cases h
      have := fs_in _ _ hw
      exact ⟨by omega, this⟩
    · have := ih _ _ _ h
      exact ⟨by omega, this.2⟩
theorem ch_in {pr : Nat → Int32} : ∀ u v, chF n m cv mf pr u = some v → v < u := by
  intro u
  induction u with
  | zero => intro v h; cases h
  | succ u ih =>
    intro v h
    unfold chF at h
    split at h
    · split at h
      · cases h; omega
      · cases h
    · rename_i w hw
      have := ih w hw
      split at h
      · cases h; omega
      · cases h; omega
end BT
/-- a best edit lies in the planner -/
def BestQ (Q : Pln) (n m : Nat) (cv : Nat → Nat → Bool) (mf : Nat → Nat → Nat → Bool) (z v : Nat) : Prop := p_bz Q = nI z ∧ p_bc Q = nI (tk n m cv mf v) ∧ ∀ l, l < m → p_bes Q l = nI (tw n m cv mf v l)
section BU
variable {g : Glob} {S : Scn} {O : Oth}
theorem ac_takeTrial {m : Nat} {z c : Int32} (hm : p_nl (o_Q O) = nI m) (h8 : m ≤ 8) : ACe g mX1_takeTrial [.ref 55, .int z, .int c] (lay (S, O)) none (lay (S, o_Q' O (p_bes' (p_bc' (p_bz' (o_Q O) z) c) (va_cpy (p_tri (o_Q O)) (p_bes (o_Q O)) 0 0 m)))) := by
  refine acw gdX1_takeTrial 40 rfl ?_
  refine ⟨8, _, 8, _, rfl, rfl, ?_, ?_⟩
  · have e : (p_nl (o_Q O)).toNatClampNeg = m := vcl hm (by omega)
    refine ⟨by decide, by decide, ?_, ?_, ?_⟩
    · show ¬ p_nl (o_Q O) < 0
      rw [hm]; exact nlt0 m (by omega)
    · show (0 : Int32).toNatClampNeg + (p_nl (o_Q O)).toNatClampNeg ≤ 8
      rw [e]
      show 0 + m ≤ 8
      omega
    · show (0 : Int32).toNatClampNeg + (p_nl (o_Q O)).toNatClampNeg ≤ 8
      rw [e]
      show 0 + m ≤ 8
      omega
  · have e : (p_nl (o_Q (S, O).snd)).toNatClampNeg = m := vcl hm (by omega)
    rw [e]
    generalize hG : va_cpy (p_tri (o_Q O)) (p_bes (o_Q O)) 0 0 m = G
    refine ⟨rfl, ?_⟩
    show List.set (_ : AH) 78 (ia 8 (va_cpy (p_tri (o_Q O)) (p_bes (o_Q O)) 0 0 m)) = _
    rw [hG]
    rfl
theorem ac_findBest {m n : Nat} {cv : Nat → Nat → Bool} {mf : Nat → Nat → Nat → Bool} (hP : PS (o_Q O) m n cv mf) (h8 : m ≤ 8) (h6 : n ≤ 6) : AC g mX1_findBest [.ref 55] (lay (S, O)) (fun r h' => ∃ Q, PS Q m n cv mf ∧ h' = lay (S, o_Q' O Q) ∧ ((fbF n m cv mf (n + 1) 0 = none ∧ r = some (.int 0)) ∨ ∃ z v, fbF n m cv mf (n + 1) 0 = some (z, v) ∧ r = some (.int 1) ∧ BestQ Q n m cv mf z v)) := by
  have e64 := p64 h6
  have key := dn (n := n + 1) (P := fun z => fbF n m cv mf (n + 1) 0 = fbF n m cv mf (n + 1 - z) z → ∀ Q : Pln, PS Q m n cv mf → AW g mX1_findBest (fun r h' => ∃ Q, PS Q m n cv mf ∧ h' = lay (S, o_Q' O Q) ∧ ((fbF n m cv mf (n + 1) 0 = none ∧ r = some (.int 0)) ∨ ∃ z v, fbF n m cv mf (n + 1) 0 = some (z, v) ∧ r = some (.int 1) ∧ BestQ Q n m cv mf z v)) 0 0 2 [some (.ref 55), some (.int (nI z)), none, none, none] [] (lay (S, o_Q' O Q))) ?_ (fun z hz ih => ?_) 0 (Nat.zero_le _)
  · exact acw gdX1_findBest 40 rfl (key rfl (o_Q O) hP)
  · intro hfb Q hQ
    rw [Nat.sub_self] at hfb
    refine lpw gdX1_findBest 60 ⟨fun _ => ⟨rfl, Q, hQ, rfl, Or.inl ⟨hfb, rfl⟩⟩, fun h => absurd (show p_ns Q < _ by rw [hQ.2.1]; exact (nltI (by omega) (by omega)).mpr (by omega)) h⟩
  · intro hfb Q hQ
    refine lpw gdX1_findBest 60 ⟨fun h => ?_, fun _ => ?_⟩
    · have h' : p_ns Q < nI z := h
      rw [hQ.2.1] at h'
      have := (nltI (by omega) (by omega)).mp h'
      omega
    have key2 := dn (n := 2 ^ n) (P := fun u => ∀ Q : Pln, PS Q m n cv mf → (∀ v, fsF n m cv mf z u = some v → BestQ Q n m cv mf z v) → AW g mX1_findBest (fun r h' => ∃ Q, PS Q m n cv mf ∧ h' = lay (S, o_Q' O Q) ∧ ((fbF n m cv mf (n + 1) 0 = none ∧ r = some (.int 0)) ∨ ∃ z v, fbF n m cv mf (n + 1) 0 = some (z, v) ∧ r = some (.int 1) ∧ BestQ Q n m cv mf z v)) 0 0 14 [some (.ref 55), some (.int (nI z)), some (.int (bi (fsF n m cv mf z u).isSome)), some (.int (nI u)), none] [] (lay (S, o_Q' O Q))) ?_ (fun u hu ihu => ?_) 0 (Nat.zero_le _)
    · exact key2 Q hQ (fun v hv => by cases hv)
    · intro Q hQ hB
      refine lpw gdX1_findBest 60 ⟨fun _ => ?_, fun h => ?_⟩
      · have ek : n + 1 - z = (n - z) + 1 := by omega
        rw [ek] at hfb
        unfold fbF at hfb
        cases hf : fsF n m cv mf z (2 ^ n) with
        | none =>
          rw [hf] at hfb
          refine ⟨fun _ => ?_, fun h => absurd rfl h⟩
          refine awf ?_ (ih (by rw [show n + 1 - (z + 1) = n - z by omega]; exact hfb) Q hQ)
          rw [← nI_1]
          exact ⟨rfl, rfl, trivial⟩
        | some v =>
          rw [hf] at hfb
          refine ⟨fun h => absurd h n01, fun _ => ?_⟩
          exact ⟨rfl, Q, hQ, rfl, Or.inr ⟨z, v, hfb, rfl, hB v hf⟩⟩
      · refine absurd (show (1 : Int32) <<< (p_ns Q &&& 31) ≤ nI (2 ^ n) from ?_) h
        rw [hQ.2.1, shlI n (by omega)]
        exact nle (Nat.le_refl _) (by omega)
    · intro Q hQ hB
      have J85 : ∀ (Q : Pln) (f : Int32) (c : Option Value), PS Q m n cv mf → f = bi (fsF n m cv mf z (u + 1)).isSome → (∀ v, fsF n m cv mf z (u + 1) = some v → BestQ Q n m cv mf z v) → AW g mX1_findBest (fun r h' => ∃ Q, PS Q m n cv mf ∧ h' = lay (S, o_Q' O Q) ∧ ((fbF n m cv mf (n + 1) 0 = none ∧ r = some (.int 0)) ∨ ∃ z v, fbF n m cv mf (n + 1) 0 = some (z, v) ∧ r = some (.int 1) ∧ BestQ Q n m cv mf z v)) 0 0 85 [some (.ref 55), some (.int (nI z)), some (.int f), some (.int (nI u)), none] [] (lay (S, o_Q' O Q)) := by
        intro Q f c hQ hf hB
        subst hf
        exact lpw gdX1_findBest 60 (awl (by rw [← nI_1]; rfl) (ihu Q hQ hB))
      have J83 : ∀ (Q : Pln) (f c : Int32), PS Q m n cv mf → (∃ v, fsF n m cv mf z (u + 1) = some v) → (∀ v, fsF n m cv mf z (u + 1) = some v → BestQ Q n m cv mf z v) → AW g mX1_findBest (fun r h' => ∃ Q, PS Q m n cv mf ∧ h' = lay (S, o_Q' O Q) ∧ ((fbF n m cv mf (n + 1) 0 = none ∧ r = some (.int 0)) ∨ ∃ z v, fbF n m cv mf (n + 1) 0 = some (z, v) ∧ r = some (.int 1) ∧ BestQ Q n m cv mf z v)) 0 0 83 [some (.ref 55), some (.int (nI z)), some (.int f), some (.int (nI u)), some (.int c)] [] (lay (S, o_Q' O Q)) := by
        intro Q f c hQ hf hB
        refine lpw gdX1_findBest 60 (awf ?_ (J85 Q 1 none hQ (by obtain ⟨v, hv⟩ := hf; rw [hv]; rfl) hB))
        exact ⟨rfl, rfl, rfl, rfl, trivial⟩
      have hu64 : u < 64 := by omega
      refine lpw gdX1_findBest 60 ⟨fun h => ?_, fun _ => ?_⟩
      · have h' : (1 : Int32) <<< (p_ns Q &&& 31) ≤ nI u := h
        rw [hQ.2.1, shlI n (by omega)] at h'
        exact absurd h' (nge hu (by omega))
      refine ac_to (ac_bitCount _ _) ?_
      have hpop : pop6 u ≤ 6 := by unfold pop6; omega
      refine ⟨fun h => ?_, fun h => ?_⟩
      · have h' : ¬ pop6 u = z := fun w => h (by rw [bc_fin u hu64, w])
        refine J85 Q _ none hQ ?_ ?_
        · rw [fs_no (by simp [h'])]
        · rw [fs_no (by simp [h'])]; exact hB
      rw [bc_fin u hu64] at h
      have hpz : pop6 u = z := (neqI (by omega) (by omega)).mp h
      refine ac_to (ac_hasWholeEdit (g := g) (S := S) (O := o_Q' O Q) (u := u) hQ h8 h6 hu64) ⟨fun h => ?_, fun h => ?_⟩
      · have hh : hasU n m u cv mf = false := (bi_e0 _).mp h
        refine J85 Q _ none hQ ?_ ?_
        · rw [fs_no (by simp [hh])]
        · rw [fs_no (by simp [hh])]; exact hB
      have hh : hasU n m u cv mf = true := by rw [bi_e0, Bool.not_eq_false] at h; exact h
      obtain ⟨hw1, -, -⟩ := has_tw hu h6 h8 hh
      have htk := tk_le (n := n) (m := m) (cv := cv) (mf := mf) (u := u) h6 h8
      refine ac_mono (ac_planTrial (g := g) (S := S) (O := o_Q' O Q) (u := u) hQ h8 h6 hu64) ?_
      rintro r h' ⟨rfl, Q2, hs2, ht2, rfl⟩
      have hQ2 := hs2.ps hQ
      have htri : ∀ l, l < m → p_tri Q2 l = nI (tw n m cv mf u l) ∧ tw n m cv mf u l ≤ 6 := fun l hl => by
        rw [ht2 l hl, (hw1 l hl).1]
        have := (hw1 l hl).2.1
        exact ⟨rfl, by omega⟩
      have hB2 : ∀ v, fsF n m cv mf z u = some v → BestQ Q2 n m cv mf z v := fun v hv => by
        obtain ⟨b1, b2, b3⟩ := hB v hv
        obtain ⟨s1, s2, s3, s4, s5, s6, s7, s8⟩ := hs2
        refine ⟨s7.trans b1, s8.trans b2, fun l hl => ?_⟩
        rw [s6]
        exact b3 l hl
      have J76 : ∀ f : Int32, (∀ v, fsF n m cv mf z u = some v → ltU n m cv mf u v = true) → AW g mX1_findBest (fun r h' => ∃ Q, PS Q m n cv mf ∧ h' = lay (S, o_Q' O Q) ∧ ((fbF n m cv mf (n + 1) 0 = none ∧ r = some (.int 0)) ∨ ∃ z v, fbF n m cv mf (n + 1) 0 = some (z, v) ∧ r = some (.int 1) ∧ BestQ Q n m cv mf z v)) 0 0 76 [some (.ref 55), some (.int (nI z)), some (.int f), some (.int (nI u)), some (.int (nI (tk n m cv mf u)))] [] (lay (S, o_Q' O Q2)) := by
        intro f hlt
        have hfs := fs_ye hpz hh hlt
        have C1 := ac_takeTrial (g := g) (S := S) (O := o_Q' O Q2) (z := nI z) (c := nI (tk n m cv mf u)) hQ2.1 h8
        have hG : ∀ l, l < m → va_cpy (p_tri Q2) (p_bes Q2) 0 0 m l = nI (tw n m cv mf u l) := fun l hl => by
          rw [pk_cpy_in (by omega) (by omega), show 0 + (l - 0) = l by omega]
          exact (htri l hl).1
        replace C1 : ACe g mX1_takeTrial [.ref 55, .int (nI z), .int (nI (tk n m cv mf u))] (lay (S, o_Q' O Q2)) none (lay (S, o_Q' O (p_bes' (p_bc' (p_bz' Q2 (nI z)) (nI (tk n m cv mf u))) (va_cpy (p_tri Q2) (p_bes Q2) 0 0 m)))) := C1
        generalize va_cpy (p_tri Q2) (p_bes Q2) 0 0 m = G at C1 hG
        refine lpw gdX1_findBest 60 (ac_to C1 ?_)
        refine J83 (p_bes' (p_bc' (p_bz' Q2 (nI z)) (nI (tk n m cv mf u))) G) f _ hQ2 ⟨u, hfs⟩ (fun v hv => ?_)
        rw [hfs] at hv
        cases hv
        exact ⟨rfl, rfl, hG⟩
      cases hfs : fsF n m cv mf z u with
      | none =>
        exact ⟨fun _ => J76 _ (fun v hv => by rw [hfs] at hv; cases hv), fun h => absurd rfl h⟩
      | some v =>
        have hvv := fs_in _ _ hfs
        obtain ⟨b1, b2, b3⟩ := hB2 v hfs
        have htv := tk_le (n := n) (m := m) (cv := cv) (mf := mf) (u := v) h6 h8
        obtain ⟨hv1, -, -⟩ := has_tw (u := v) (by omega) h6 h8 hvv.2
        refine ⟨fun h => absurd h n01, fun _ => ⟨fun h1 => ?_, fun h1 => ?_⟩⟩
        · have h1' : nI (tk n m cv mf u) < p_bc Q2 := h1
          rw [b2] at h1'
          have h1' := (nltI (by omega) (by omega)).mp h1'
          refine J76 _ (fun w hw => ?_)
          rw [hfs] at hw; cases hw
          unfold ltU
          simp [h1']
        · have h1' : ¬ tk n m cv mf u < tk n m cv mf v := fun w => h1 (show nI (tk n m cv mf u) < p_bc Q2 by rw [b2]; exact (nltI (by omega) (by omega)).mpr w)
          refine ⟨fun h2 => ?_, fun h2 => ?_⟩
          · have h2' : ¬ tk n m cv mf u = tk n m cv mf v := fun w => h2 (show nI (tk n m cv mf u) = p_bc Q2 by rw [b2, w])
            have hl : ltU n m cv mf u v = false := by unfold ltU; simp [h1', h2']
            have hst := fs_st hfs hl
            refine J83 Q2 _ _ hQ2 ⟨v, hst⟩ (fun w hw => ?_)
            rw [hst] at hw; cases hw
            exact hB2 v hfs
          · have h2' : nI (tk n m cv mf u) = p_bc Q2 := h2
            rw [b2] at h2'
            have h2' := (neqI (by omega) (by omega)).mp h2'
            refine ac_to (ac_trialIsLower (g := g) (S := S) (O := o_Q' O Q2) (a := tw n m cv mf u) (b := tw n m cv mf v) hQ2.1 h8 htri (fun l hl => ⟨b3 l hl, by have := (hv1 l hl).2.1; omega⟩)) ⟨fun h3 => ?_, fun h3 => ?_⟩
            · have h3' := (bi_e0 _).mp h3
              have hl : ltU n m cv mf u v = false := by unfold ltU; simp [h2', h3']
              have hst := fs_st hfs hl
              refine J83 Q2 _ _ hQ2 ⟨v, hst⟩ (fun w hw => ?_)
              rw [hst] at hw; cases hw
              exact hB2 v hfs
            · rw [bi_e0, Bool.not_eq_false] at h3
              refine J76 _ (fun w hw => ?_)
              rw [hfs] at hw; cases hw
              unfold ltU
              simp [h2', h3]
theorem ac_differsFrom {m : Nat} {b : Nat → Nat} {eo : Nat → Option Nat} {k : Nat} (h6 : k ≤ 6) (hm : p_nl (o_Q O) = nI m) (h8 : m ≤ 8) (hb : ∀ l, l < m → p_bes (o_Q O) l = nI (b l) ∧ b l < k) (hE : ∀ l, l < m → s_ed S l = sh (eo l) ∧ okO k (eo l)) : ACe g mX1_differsFrom [.ref 55, .ref 1] (lay (S, O)) (some (.int (nI (cnt (fun l => !decide (eo l = some (b l))) m)))) (lay (S, O)) := by
  refine acw gdX1_differsFrom 40 rfl ?_
  refine dn (n := m) (P := fun l => AW g mX1_differsFrom _ 0 0 4 [some (.ref 55), some (.ref 1), some (.int (nI (cnt (fun l => !decide (eo l = some (b l))) l))), some (.int (nI l))] [] (lay (S, O))) ?_ (fun l hl ih => ?_) 0 (Nat.zero_le _)
  · exact lpw gdX1_differsFrom 40 ⟨fun _ => ⟨rfl, rfl⟩, fun h => absurd (show p_nl (o_Q O) ≤ _ by rw [hm]; exact nle (by omega) (by omega)) h⟩
  · refine lpw gdX1_differsFrom 40 ⟨fun h => absurd (show p_nl (o_Q O) ≤ _ from h) (by rw [hm]; exact nge (by omega) (by omega)), fun _ => ?_⟩
    refine ⟨_, _, rfl, vlit (by omega) (by decide), ?_⟩
    refine ⟨_, _, rfl, vlit (by omega) (by decide), ?_⟩
    rw [vcl (x := nI l) rfl (by omega), show s_ed (S, O).fst l = _ from (hE l hl).1, show p_bes (o_Q (S, O).snd) l = _ from (hb l hl).1]
    have e : sh (eo l) = nI (b l) ↔ eo l = some (b l) := by
      have hbl := (hb l hl).2
      cases h : eo l with
      | none => exact ⟨fun z => absurd z.symm (nI_ne9 (by omega)), fun z => by cases z⟩
      | some s =>
        have hs := (hE l hl).2 s h
        exact ⟨fun z => congrArg some ((neqI (by omega) (by omega)).mp z), fun z => by cases z; rfl⟩
    refine ⟨fun h => awl ?_ ih, fun h => awl ?_ ih⟩
    · rw [e] at h
      rw [cnt_f (p := fun l => !decide (eo l = some (b l))) (by simp [h]), ← nI_1]
      rfl
    · rw [e] at h
      rw [cnt_t (p := fun l => !decide (eo l = some (b l))) (by simp [h]), ← nI_1, ← nI_1]
      rfl
theorem ac_giveBestTo {m : Nat} (hm : p_nl (o_Q O) = nI m) (h8 : m ≤ 8) : ACe g mX1_giveBestTo [.ref 55, .ref 1] (lay (S, O)) none (lay (s_ed' S (va_cpy (p_bes (o_Q O)) (s_ed S) 0 0 m), O)) := by
  refine acw gdX1_giveBestTo 40 rfl ?_
  refine ⟨8, _, 8, _, rfl, rfl, ?_, ?_⟩
  · have e : (p_nl (o_Q O)).toNatClampNeg = m := vcl hm (by omega)
    refine ⟨by decide, by decide, ?_, ?_, ?_⟩
    · show ¬ p_nl (o_Q O) < 0
      rw [hm]; exact nlt0 m (by omega)
    · show (0 : Int32).toNatClampNeg + (p_nl (o_Q O)).toNatClampNeg ≤ 8
      rw [e]
      show 0 + m ≤ 8
      omega
    · show (0 : Int32).toNatClampNeg + (p_nl (o_Q O)).toNatClampNeg ≤ 8
      rw [e]
      show 0 + m ≤ 8
      omega
  · have e : (p_nl (o_Q (S, O).snd)).toNatClampNeg = m := vcl hm (by omega)
    rw [e]
    generalize hG : va_cpy (p_bes (o_Q O)) (s_ed S) 0 0 m = G
    refine ⟨rfl, ?_⟩
    show List.set (_ : AH) 4 (ia 8 (va_cpy (p_bes (o_Q O)) (s_ed S) 0 0 m)) = _
    rw [hG]
    rfl
theorem ac_cheapestSet {m n : Nat} {cv : Nat → Nat → Bool} {mf : Nat → Nat → Nat → Bool} {pr : Nat → Int32} (hP : PS (o_Q O) m n cv mf) (h8 : m ≤ 8) (h6 : n ≤ 6) (hp : ∀ s, s < n → ∃ q : Nat, q ≤ 9 ∧ pr s = nI q) (hq : ∀ s, s < n → p_pri (o_Q O) s = pr s) : ACe g mX1_cheapestSet [.ref 55] (lay (S, O)) (some (.int (sh (chF n m cv mf pr (2 ^ n))))) (lay (S, O)) := by
  have e64 := p64 h6
  have key := dn (n := 2 ^ n) (P := fun u => ∀ (x : UInt32) (y : Option Value), (∀ v, chF n m cv mf pr u = some v → x = dF pr v n) → AW g mX1_cheapestSet (fun r h' => r = some (.int (sh (chF n m cv mf pr (2 ^ n)))) ∧ h' = lay (S, O)) 0 0 7 [some (.ref 55), some (.int (sh (chF n m cv mf pr u))), some (.float x), some (.int (nI u)), none] [] (lay (S, O))) ?_ (fun u hu ih => ?_) 0 (Nat.zero_le _)
  · exact acw gdX1_cheapestSet 40 rfl (key FP.fconst0 none (fun v hv => by cases hv))
  · intro x _ hx
    refine lpw gdX1_cheapestSet 40 ⟨fun _ => ⟨rfl, rfl⟩, fun h => absurd (show (1 : Int32) <<< (p_ns (o_Q O) &&& 31) ≤ nI (2 ^ n) from ?_) h⟩
    rw [hP.2.1, shlI n (by omega)]
    exact nle (Nat.le_refl _) (by omega)
  · intro x _ hx
    have hu64 : u < 64 := by omega
    have CH := ac_hasWholeEdit (g := g) (S := S) (O := O) (u := u) hP h8 h6 hu64
    have J50 : ∀ (c : Int32) (x : UInt32) (y : UInt32), c = sh (chF n m cv mf pr (u + 1)) → (∀ v, chF n m cv mf pr (u + 1) = some v → x = dF pr v n) → AW g mX1_cheapestSet (fun r h' => r = some (.int (sh (chF n m cv mf pr (2 ^ n)))) ∧ h' = lay (S, O)) 0 0 50 [some (.ref 55), some (.int c), some (.float x), some (.int (nI u)), some (.float y)] [] (lay (S, O)) := by
      intro c x y hc hx
      subst hc
      refine lpw gdX1_cheapestSet 40 (awf ?_ (ih x none hx))
      rw [← nI_1]
      exact ⟨rfl, rfl, rfl, rfl, trivial⟩
    have J37 : (∀ v, chF n m cv mf pr u = some v → lessF (dF pr u n) (dF pr v n) = true) → AW g mX1_cheapestSet (fun r h' => r = some (.int (sh (chF n m cv mf pr (2 ^ n)))) ∧ h' = lay (S, O)) 0 0 37 [some (.ref 55), some (.int (sh (chF n m cv mf pr u))), some (.float x), some (.int (nI u)), some (.float (dF pr u n))] [] (lay (S, O)) := by
      intro hl
      refine lpw gdX1_cheapestSet 40 (ac_to CH ⟨fun h => ?_, fun h => ?_⟩)
      · have hh := (bi_e0 _).mp h
        have e : chF n m cv mf pr (u + 1) = chF n m cv mf pr u := by
          show (match chF n m cv mf pr u with | none => if hasU n m u cv mf then some u else none | some v => if lessF (dF pr u n) (dF pr v n) && hasU n m u cv mf then some u else some v) = _
          split
          · rename_i h0; rw [hh, h0]; rfl
          · rename_i v h0; rw [hh, h0, Bool.and_false]; rfl
        refine J50 _ _ _ (by rw [e]) (fun v hv => hx v (by rw [← e]; exact hv))
      · rw [bi_e0, Bool.not_eq_false] at h
        have e : chF n m cv mf pr (u + 1) = some u := by
          show (match chF n m cv mf pr u with | none => if hasU n m u cv mf then some u else none | some v => if lessF (dF pr u n) (dF pr v n) && hasU n m u cv mf then some u else some v) = _
          split
          · rw [if_pos h]
          · rename_i v h0; rw [h, hl v h0]; rfl
        exact J50 _ _ _ (by rw [e]; rfl) (fun v hv => by rw [e] at hv; cases hv; rfl)
    refine lpw gdX1_cheapestSet 40 ⟨fun h => ?_, fun _ => ?_⟩
    · have h' : (1 : Int32) <<< (p_ns (o_Q O) &&& 31) ≤ nI u := h
      rw [hP.2.1, shlI n (by omega)] at h'
      exact absurd h' (nge hu (by omega))
    refine ac_to (ac_dear (g := g) (S := S) (O := O) (u := u) h6 hu64 hP.2.1 hp hq) ?_
    cases hc : chF n m cv mf pr u with
    | none =>
      rw [hc] at J37
      exact ⟨fun _ => J37 (fun v hv => by cases hv), fun h => absurd rfl h⟩
    | some v =>
      have hv := ch_in _ _ hc
      have hxv := hx v hc
      refine ⟨fun h => absurd h (nI_ne9 (by omega)), fun _ => ⟨fun h => ?_, fun h => ?_⟩⟩
      · have hle : lessF (dF pr u n) (dF pr v n) = false := by
          unfold lessF
          rw [decide_eq_false_iff_not, ← hxv]
          exact Int32.not_lt.mpr h
        have e : chF n m cv mf pr (u + 1) = some v := by
          show (match chF n m cv mf pr u with | none => if hasU n m u cv mf then some u else none | some v => if lessF (dF pr u n) (dF pr v n) && hasU n m u cv mf then some u else some v) = _
          rw [hc]
          exact if_neg (by rw [hle]; simp)
        exact J50 _ _ _ (by rw [e]) (fun w hw => by rw [e] at hw; cases hw; exact hxv)
      · rw [hc] at J37
        refine J37 (fun w hw => ?_)
        cases hw
        unfold lessF
        rw [decide_eq_true_eq, ← hxv]
        exact Int32.not_le.mp h
theorem all_lt {n : Nat} (h6 : n ≤ 6) : (2 ^ n - 1) < 64 := by have := p64 h6; omega
theorem ac_neededShots {m n : Nat} {cv : Nat → Nat → Bool} {mf : Nat → Nat → Nat → Bool} (hP : PS (o_Q O) m n cv mf) (h8 : m ≤ 8) (h6 : n ≤ 6) : ACe g mX1_neededShots [.ref 55] (lay (S, O)) (some (.int (nI (if hasU n m (2 ^ n - 1) cv mf then msk (fun s => !hasU n m ((2 ^ n - 1) &&& (63 ^^^ 2 ^ s)) cv mf) n else 0)))) (lay (S, O)) := by
  have hall := all_lt h6
  have h1n : 1 ≤ 2 ^ n := Nat.one_le_two_pow
  have ea : (1 : Int32) <<< (p_ns (o_Q O) &&& 31) - 1 = nI (2 ^ n - 1) := by
    rw [hP.2.1, shlI n (by omega)]
    obtain ⟨j, hj⟩ : ∃ j, 2 ^ n = j + 1 := ⟨2 ^ n - 1, by omega⟩
    rw [hj, nI_pred]
    rfl
  have CH := ac_hasWholeEdit (g := g) (S := S) (O := O) (u := 2 ^ n - 1) hP h8 h6 hall
  generalize hA : 2 ^ n - 1 = A at *
  refine acw gdX1_neededShots 40 rfl (ac_ar (by show [Value.ref 55, Value.int ((1 : Int32) <<< (p_ns (o_Q O) &&& 31) - 1)] = _; rw [ea]) (ac_to CH ⟨fun h => ?_, fun h => ?_⟩))
  · rw [bi_e0, Bool.not_eq_false] at h
    rw [if_pos h]
    have key := dn (n := n) (P := fun i => AW g mX1_neededShots (fun r h' => r = some (.int (nI (msk (fun s => !hasU n m (A &&& (63 ^^^ 2 ^ s)) cv mf) n))) ∧ h' = lay (S, O)) 0 0 23 [some (.ref 55), some (.int (nI A)), some (.int (nI (msk (fun s => !hasU n m (A &&& (63 ^^^ 2 ^ s)) cv mf) i))), some (.int (nI i))] [] (lay (S, O))) ?_ (fun i hi ih => ?_) 0 (Nat.zero_le _)
    · refine awl ?_ key
      rw [← ea]
      rfl
    · exact lpw gdX1_neededShots 40 ⟨fun _ => ⟨rfl, rfl⟩, fun h => absurd (show p_ns (o_Q O) ≤ _ by rw [hP.2.1]; exact nle (by omega) (by omega)) h⟩
    · refine lpw gdX1_neededShots 40 ⟨fun h => absurd (show p_ns (o_Q O) ≤ _ from h) (by rw [hP.2.1]; exact nge (by omega) (by omega)), fun _ => ?_⟩
      refine ac_ar (by rw [notI A hall i (by omega)]) (ac_to (ac_hasWholeEdit (g := g) (S := S) (O := O) (u := A &&& (63 ^^^ 2 ^ i)) hP h8 h6 (and_lt64' hall)) ⟨fun h => awl ?_ ih, fun h => awl ?_ ih⟩)
      · rw [bi_e0, Bool.not_eq_false] at h
        rw [msk_no (p := fun s => !hasU n m (A &&& (63 ^^^ 2 ^ s)) cv mf) (by simp [h]), ← nI_1]
        rfl
      · rw [← msk_or (p := fun s => !hasU n m (A &&& (63 ^^^ 2 ^ s)) cv mf) (by omega) (by rw [(bi_e0 _).mp h]; rfl), ← nI_1]
        rfl
  · rw [(bi_e0 _).mp h]
    exact ⟨rfl, rfl⟩
end BU
end
section
/-- the model with its tables anew -/
abbrev mW (M : Mdl) (K W : Fn) (wc : Int32) (B : Fn) (bc bs : Int32) : Mdl := (z_now M, z_rd M, z_past M, z_deeds M, z_img M, z_kept M, z_text M, z_let M, z_at M, z_tok M, z_tat M, z_sw M, z_si M, z_seen M, z_aP M, z_aL M, z_items M, K, W, wc, B, bc, bs)
theorem mC_le {u : Nat} {cv : Nat → Nat → Bool} {mf : Nat → Nat → Nat → Bool} (k l s : Nat) : mC u cv mf k l s ≤ 1000 := by
  cases k with
  | zero => unfold mC; split <;> omega
  | succ k =>
    unfold mC
    split
    · exact mnF_le 6
    · omega
section FC
variable {g : Glob} {S : Scn} {O : Oth}
set_option maxRecDepth 10000 in
theorem L103g {f : Fn} : (lay (S, O)).set 103 (ia 48 f) = lay (S, o_M' O (z_cuts' (o_M O) f)) := by rfl
set_option maxRecDepth 10000 in
theorem L104g {f : Fn} : (lay (S, O)).set 104 (ia 8 f) = lay (S, o_M' O (z_way' (o_M O) f)) := by rfl
set_option maxRecDepth 10000 in
theorem L105g {f : Fn} : (lay (S, O)).set 105 (ia 8 f) = lay (S, o_M' O (z_best' (o_M O) f)) := by rfl
theorem L103 {M : Mdl} {K K' W : Fn} {wc : Int32} {B : Fn} {bc bs : Int32} : (lay (S, o_M' O (mW M K W wc B bc bs))).set 103 (ia 48 K') = lay (S, o_M' O (mW M K' W wc B bc bs)) := L103g
theorem L104 {M : Mdl} {K W' W : Fn} {wc : Int32} {B : Fn} {bc bs : Int32} : (lay (S, o_M' O (mW M K W wc B bc bs))).set 104 (ia 8 W') = lay (S, o_M' O (mW M K W' wc B bc bs)) := L104g
theorem L105 {M : Mdl} {K B' W : Fn} {wc : Int32} {B : Fn} {bc bs : Int32} : (lay (S, o_M' O (mW M K W wc B bc bs))).set 105 (ia 8 B') = lay (S, o_M' O (mW M K W wc B' bc bs)) := L105g
abbrev mcv (O : Oth) : Nat → Nat → Bool := cvL (fcr (z_now (o_M O)))
abbrev mmf (O : Oth) : Nat → Nat → Nat → Bool := mfA (z_now (o_M O)) (fcr (z_now (o_M O))) (spr (z_now (o_M O)))
theorem am_findCuts {m u : Nat} {K0 W : Fn} {wc : Int32} {B : Fn} {bc bs : Int32} (hm : z_now (o_M O) 4 = nI m) (h8 : m ≤ 8) (hu : u < 64) : AC g mX6_findCuts [.ref 94, .int (nI u)] (lay (S, o_M' O (mW (o_M O) K0 W wc B bc bs))) (fun r h' => r = none ∧ ∃ K, (∀ l s, l < m → s < 6 → K (6 * l + s) = nI (mC u (mcv O) (mmf O) (m - 1 - l) l s)) ∧ h' = lay (S, o_M' O (mW (o_M O) K W wc B bc bs))) := by
  have key := dn (n := m) (P := fun j => ∀ K : Fn, (∀ l s, m - j ≤ l → l < m → s < 6 → K (6 * l + s) = nI (mC u (mcv O) (mmf O) (m - 1 - l) l s)) → AW g mX6_findCuts (fun r h' => r = none ∧ ∃ K, (∀ l s, l < m → s < 6 → K (6 * l + s) = nI (mC u (mcv O) (mmf O) (m - 1 - l) l s)) ∧ h' = lay (S, o_M' O (mW (o_M O) K W wc B bc bs))) 0 0 11 [some (.ref 94), some (.int (nI u)), some (.int (nI m)), some (.int (nI (m - j) - 1)), none, none, none, none, none] [] (lay (S, o_M' O (mW (o_M O) K W wc B bc bs)))) ?_ (fun j hj ih => ?_) 0 (Nat.zero_le _)
  · refine acw gdX6_findCuts 60 rfl ⟨_, _, rfl, vlit (j := 4) (by decide) (by decide), ?_⟩
    have k0 := key K0 (fun l s h1 h2 => absurd h1 (by omega))
    rw [Nat.sub_zero, ← hm] at k0
    exact k0
  · intro K hK
    rw [Nat.sub_self]
    exact lpw gdX6_findCuts 60 ⟨fun _ => ⟨rfl, K, fun l s hl hs => hK l s (by omega) hl hs, rfl⟩, fun h => absurd (by decide) h⟩
  · intro K hK
    obtain ⟨l, hl⟩ : ∃ l, m - j = l + 1 := ⟨m - j - 1, by omega⟩
    rw [hl, nI_pred]
    rw [show m - (j + 1) = l by omega] at ih
    refine lpw gdX6_findCuts 60 ⟨fun h => absurd h (nlt0 l (by omega)), fun _ => ?_⟩
    have key2 := dn (n := 6) (P := fun s => ∀ K : Fn, (∀ k v, l ≤ k → k < m → v < 6 → (k = l → v < s) → K (6 * k + v) = nI (mC u (mcv O) (mmf O) (m - 1 - k) k v)) → AW g mX6_findCuts (fun r h' => r = none ∧ ∃ K, (∀ l s, l < m → s < 6 → K (6 * l + s) = nI (mC u (mcv O) (mmf O) (m - 1 - l) l s)) ∧ h' = lay (S, o_M' O (mW (o_M O) K W wc B bc bs))) 0 0 18 [some (.ref 94), some (.int (nI u)), some (.int (nI m)), some (.int (nI l)), some (.int (nI s)), none, none, none, none] [] (lay (S, o_M' O (mW (o_M O) K W wc B bc bs)))) ?_ (fun s hs ihs => ?_) 0 (Nat.zero_le _)
    · exact key2 K (fun k v h1 h2 h3 h4 => hK k v (Nat.le_of_not_lt (fun z => absurd (h4 (by omega)) (by omega))) h2 h3)
    · intro K hK
      refine lpw gdX6_findCuts 60 ⟨fun _ => ?_, fun h => absurd (by decide) h⟩
      refine awf ?_ (ih K (fun k v h1 h2 h3 => hK k v h1 h2 h3 (fun _ => h3)))
      exact ⟨rfl, rfl, rfl, congrArg Value.int (Int32.sub_eq_add_neg _ _), trivial⟩
    · intro K hK
      have ei : 6 * nI l + nI s = nI (6 * l + s) := by simp only [nlit, pk_mul, nI_add]
      have J177 : ∀ v : Int32, v = nI (mC u (mcv O) (mmf O) (m - 1 - l) l s) → AW g mX6_findCuts (fun r h' => r = none ∧ ∃ K, (∀ l s, l < m → s < 6 → K (6 * l + s) = nI (mC u (mcv O) (mmf O) (m - 1 - l) l s)) ∧ h' = lay (S, o_M' O (mW (o_M O) K W wc B bc bs))) 0 0 177 [some (.ref 94), some (.int (nI u)), some (.int (nI m)), some (.int (nI l)), some (.int (nI s)), none, none, none, none] [.int v, .int (6 * nI l + nI s), .ref 103] (lay (S, o_M' O (mW (o_M O) K W wc B bc bs))) := by
        intro v hv
        refine lpw gdX6_findCuts 60 ⟨_, _, rfl, vin ei (by omega) (by decide), ?_⟩
        rw [vcl ei (by omega)]
        refine aw_hp L103 (awl (by rw [← nI_1]; rfl) (ihs (upd K (6 * l + s) v) (fun k w h1 h2 h3 h4 => ?_)))
        by_cases hkw : k = l ∧ w = s
        · obtain ⟨rfl, rfl⟩ := hkw
          rw [pk_us]
          exact hv
        · rw [pk_un (by omega)]
          exact hK k w h1 h2 h3 (fun z => by have := h4 z; omega)
      have hml : nI m - 1 = nI (m - 1) := by
        obtain ⟨q, hq⟩ : ∃ q, m = q + 1 := ⟨m - 1, by omega⟩
        rw [hq, nI_pred]; rfl
      have J55 : ∀ b : Bool, b = (u.testBit s && mcv O l s) → AW g mX6_findCuts (fun r h' => r = none ∧ ∃ K, (∀ l s, l < m → s < 6 → K (6 * l + s) = nI (mC u (mcv O) (mmf O) (m - 1 - l) l s)) ∧ h' = lay (S, o_M' O (mW (o_M O) K W wc B bc bs))) 0 0 55 [some (.ref 94), some (.int (nI u)), some (.int (nI m)), some (.int (nI l)), some (.int (nI s)), some (.int (nI 1000)), none, none, none] [.int (bi b)] (lay (S, o_M' O (mW (o_M O) K W wc B bc bs))) := by
        intro b hb
        refine lpw gdX6_findCuts 60 ?_
        cases b with
        | false =>
          refine lpw gdX6_findCuts 60 ⟨fun h => absurd h (by decide), fun _ => ⟨fun _ => ?_, fun h => absurd rfl h⟩⟩
          refine ⟨fun h => absurd rfl h, fun _ => ?_⟩
          refine awf ?_ (J177 1000 ?_)
          · exact ⟨rfl, rfl, rfl, rfl, rfl, trivial⟩
          · have : mC u (mcv O) (mmf O) (m - 1 - l) l s = 1000 := by
              cases m - 1 - l <;> (unfold mC; rw [if_neg (by rw [← hb]; decide)])
            rw [this]
            rfl
        | true =>
          by_cases hlm : l = m - 1
          · refine lpw gdX6_findCuts 60 ⟨fun h => absurd h (by decide), fun _ => ⟨fun h => absurd h n01, fun _ => ⟨fun _ => ?_, fun h => ?_⟩⟩⟩
            · refine ⟨fun _ => ⟨fun h => absurd (show nI l = nI m - 1 by rw [hml, hlm]) h, fun _ => ?_⟩, fun h => absurd h n01⟩
              refine awf ?_ (J177 0 ?_)
              · exact ⟨rfl, rfl, rfl, rfl, rfl, trivial⟩
              · rw [show m - 1 - l = 0 by omega]
                unfold mC
                rw [if_pos hb.symm]
                rfl
            · refine absurd (show nI m - 1 ≤ nI l from ?_) h
              rw [hml]
              exact nle (by omega) (by omega)
          · obtain ⟨k, hk⟩ : ∃ k, m - 1 - l = k + 1 := ⟨m - 1 - l - 1, by omega⟩
            have hk2 : m - 1 - (l + 1) = k := by omega
            have eM : mC u (mcv O) (mmf O) (k + 1) l s = mnF (fun t => mmf O l s t) (fun t => mC u (mcv O) (mmf O) k (l + 1) t + (if s = t then 0 else 1)) 1000 6 := by
              show (if _ then _ else _) = _
              rw [if_pos hb.symm]
            rw [hk, eM] at J177
            refine dn (n := 6) (P := fun t => AW g mX6_findCuts (fun r h' => r = none ∧ ∃ K, (∀ l s, l < m → s < 6 → K (6 * l + s) = nI (mC u (mcv O) (mmf O) (m - 1 - l) l s)) ∧ h' = lay (S, o_M' O (mW (o_M O) K W wc B bc bs))) 0 0 60 [some (.ref 94), some (.int (nI u)), some (.int (nI m)), some (.int (nI l)), some (.int (nI s)), some (.int (nI (mnF (fun t => mmf O l s t) (fun t => mC u (mcv O) (mmf O) k (l + 1) t + (if s = t then 0 else 1)) 1000 t))), some (.int 1), some (.int (nI t)), none] [] (lay (S, o_M' O (mW (o_M O) K W wc B bc bs)))) ?_ (fun t ht iht => ?_) 0 (Nat.zero_le _)
            · refine lpw gdX6_findCuts 60 ⟨fun _ => ?_, fun h => absurd (by decide) h⟩
              refine ⟨fun _ => ⟨fun _ => ?_, fun h => ?_⟩, fun h => absurd h n01⟩
              · refine awf ?_ (J177 _ rfl)
                exact ⟨rfl, rfl, rfl, rfl, rfl, trivial⟩
              · have h' : nI l = nI m - 1 := h
                rw [hml, neqI (by omega) (by omega)] at h'
                exact absurd h' hlm
            · have hmn := mnF_le (p := fun t => mmf O l s t) (c := fun t => mC u (mcv O) (mmf O) k (l + 1) t + (if s = t then 0 else 1)) (X := 1000) t
              have hmc := mC_le (u := u) (cv := mcv O) (mf := mmf O) k (l + 1) t
              have J134 : ∀ v w : Int32, v = nI (mnF (fun t => mmf O l s t) (fun t => mC u (mcv O) (mmf O) k (l + 1) t + (if s = t then 0 else 1)) 1000 (t + 1)) → AW g mX6_findCuts (fun r h' => r = none ∧ ∃ K, (∀ l s, l < m → s < 6 → K (6 * l + s) = nI (mC u (mcv O) (mmf O) (m - 1 - l) l s)) ∧ h' = lay (S, o_M' O (mW (o_M O) K W wc B bc bs))) 0 0 134 [some (.ref 94), some (.int (nI u)), some (.int (nI m)), some (.int (nI l)), some (.int (nI s)), some (.int (nI (mnF (fun t => mmf O l s t) (fun t => mC u (mcv O) (mmf O) k (l + 1) t + (if s = t then 0 else 1)) 1000 t))), some (.int 1), some (.int (nI t)), some (.int w)] [.int v] (lay (S, o_M' O (mW (o_M O) K W wc B bc bs))) := by
                intro v w hv
                subst hv
                refine lpw gdX6_findCuts 60 (awf ?_ iht)
                rw [← nI_1 t]
                exact ⟨rfl, rfl, rfl, rfl, rfl, rfl, rfl, rfl, trivial⟩
              have J105 : ∀ x : Nat, x = (if s = t then 0 else 1) → AW g mX6_findCuts (fun r h' => r = none ∧ ∃ K, (∀ l s, l < m → s < 6 → K (6 * l + s) = nI (mC u (mcv O) (mmf O) (m - 1 - l) l s)) ∧ h' = lay (S, o_M' O (mW (o_M O) K W wc B bc bs))) 0 0 105 [some (.ref 94), some (.int (nI u)), some (.int (nI m)), some (.int (nI l)), some (.int (nI s)), some (.int (nI (mnF (fun t => mmf O l s t) (fun t => mC u (mcv O) (mmf O) k (l + 1) t + (if s = t then 0 else 1)) 1000 t))), some (.int 1), some (.int (nI t)), none] [.int (nI x), .int (nI (mC u (mcv O) (mmf O) k (l + 1) t))] (lay (S, o_M' O (mW (o_M O) K W wc B bc bs))) := by
                intro x hx
                have hx1 : x ≤ 1 := by rw [hx]; split <;> omega
                have ev : nI (mC u (mcv O) (mmf O) k (l + 1) t) + nI x = nI (mC u (mcv O) (mmf O) k (l + 1) t + x) := nI_add _ _
                refine lpw gdX6_findCuts 60 ⟨fun h => ?_, fun h => ?_⟩
                · refine J134 _ _ ?_
                  rw [ev] at h
                  have h' := (nleI (by omega) (by omega)).mp h
                  refine congrArg nI (if_neg ?_).symm
                  show ¬ ((mmf O l s t && decide (mC u (mcv O) (mmf O) k (l + 1) t + (if s = t then 0 else 1) < mnF (fun t => mmf O l s t) (fun t => mC u (mcv O) (mmf O) k (l + 1) t + (if s = t then 0 else 1)) 1000 t)) = true)
                  rw [Bool.and_eq_true, decide_eq_true_eq]
                  rintro ⟨-, z⟩
                  rw [hx] at h'
                  omega
                · rw [ev] at h
                  have h' : ¬ mnF (fun t => mmf O l s t) (fun t => mC u (mcv O) (mmf O) k (l + 1) t + (if s = t then 0 else 1)) 1000 t ≤ mC u (mcv O) (mmf O) k (l + 1) t + x := fun z => h ((nleI (by omega) (by omega)).mpr z)
                  refine ac_to (am_mayFollow (g := g) (S := S) (O := o_M' O (mW (o_M O) K W wc B bc bs)) (l := l) (s := s) (t := t) (by omega) hs ht) ⟨fun hf => ?_, fun hf => ?_⟩
                  · have hf' : mmf O l s t = false := (bi_e0 _).mp hf
                    refine J134 _ _ ?_
                    refine congrArg nI (if_neg ?_).symm
                    show ¬ ((mmf O l s t && decide (mC u (mcv O) (mmf O) k (l + 1) t + (if s = t then 0 else 1) < mnF (fun t => mmf O l s t) (fun t => mC u (mcv O) (mmf O) k (l + 1) t + (if s = t then 0 else 1)) 1000 t)) = true)
                    rw [Bool.and_eq_true]
                    rintro ⟨z, -⟩
                    rw [hf'] at z
                    cases z
                  · have hf' : mmf O l s t = true := by rw [bi_e0, Bool.not_eq_false] at hf; exact hf
                    refine J134 _ _ ?_
                    rw [ev]
                    refine congrArg nI ?_
                    have : mnF (fun t => mmf O l s t) (fun t => mC u (mcv O) (mmf O) k (l + 1) t + (if s = t then 0 else 1)) 1000 (t + 1) = mC u (mcv O) (mmf O) k (l + 1) t + (if s = t then 0 else 1) := by
                      refine if_pos ?_
                      show (mmf O l s t && decide (mC u (mcv O) (mmf O) k (l + 1) t + (if s = t then 0 else 1) < mnF (fun t => mmf O l s t) (fun t => mC u (mcv O) (mmf O) k (l + 1) t + (if s = t then 0 else 1)) 1000 t)) = true
                      rw [Bool.and_eq_true, decide_eq_true_eq]
                      refine ⟨hf', ?_⟩
                      rw [hx] at h'
                      omega
                    rw [this, hx]
              have ek : 6 * (nI l + 1) + nI t = nI (6 * (l + 1) + t) := by rw [nI_1]; simp only [nlit, pk_mul, nI_add]
              refine lpw gdX6_findCuts 60 ⟨fun h => absurd h (nge (n := 6) (by omega) (by omega)), fun _ => ⟨fun h => absurd h n01, fun _ => ⟨fun h => ?_, fun _ => ?_⟩⟩⟩
              · have h' : nI m - 1 ≤ nI l := h
                rw [hml] at h'
                exact absurd h' (nge (by omega) (by omega))
              refine ⟨_, _, rfl, vin ek (by omega) (by decide), ?_⟩
              rw [vcl ek (by omega), show z_cuts (o_M (S, o_M' O (mW (o_M O) K W wc B bc bs)).snd) (6 * (l + 1) + t) = nI (mC u (mcv O) (mmf O) k (l + 1) t) from (by rw [← hk2]; exact hK (l + 1) t (by omega) (by omega) ht (fun z => by omega))]
              refine ⟨fun h => J105 1 ?_, fun h => J105 0 ?_⟩
              · rw [if_neg (fun z => h (by rw [z]))]
              · rw [if_pos ((neqI (by omega) (by omega)).mp h)]
      refine lpw gdX6_findCuts 60 ⟨fun h => absurd h (nge (n := 6) (by omega) (by omega)), fun _ => ⟨fun h => ?_, fun h => ?_⟩⟩
      · refine J55 false ?_
        have : u.testBit s = false := by rw [tbI u hu s hs] at h; simpa using h
        rw [this]; rfl
      · have h1 := (tbI u hu s hs).mp h
        refine ac_to (am_covers (g := g) (S := S) (O := o_M' O (mW (o_M O) K W wc B bc bs)) (s := s) (l := l) hs) ⟨fun hc => ?_, fun hc => ?_⟩
        · have hc' : mcv O l s = false := (bi_e0 _).mp hc
          exact J55 false (by rw [h1, hc']; rfl)
        · have hc' : mcv O l s = true := by rw [bi_e0, Bool.not_eq_false] at hc; exact hc
          exact J55 true (by rw [h1, hc']; rfl)
end FC
end
section
section FW
variable {g : Glob} {S : Scn} {O : Oth}
set_option maxRecDepth 10000 in
theorem Lwcg {x : Int32} : (lay (S, O)).set 94 (.inr (6, [.ref 95, .ref 96, .ref 97, .int (z_deeds (o_M O)), .ref 98, .ref 99, .ref 100, .int (z_let (o_M O)), .int (z_at (o_M O)), .int (z_tok (o_M O)), .int (z_tat (o_M O)), .ref 101, .ref 102, .int (z_seen (o_M O)), .int (z_aP (o_M O)), .int (z_aL (o_M O)), .int (z_items (o_M O)), .ref 103, .ref 104, .int x, .ref 105, .int (z_bc (o_M O)), .int (z_bs (o_M O))])) = lay (S, o_M' O (z_wc' (o_M O) x)) := by rfl
set_option maxRecDepth 10000 in
theorem Lbcg {x y : Int32} : (lay (S, O)).set 94 (.inr (6, [.ref 95, .ref 96, .ref 97, .int (z_deeds (o_M O)), .ref 98, .ref 99, .ref 100, .int (z_let (o_M O)), .int (z_at (o_M O)), .int (z_tok (o_M O)), .int (z_tat (o_M O)), .ref 101, .ref 102, .int (z_seen (o_M O)), .int (z_aP (o_M O)), .int (z_aL (o_M O)), .int (z_items (o_M O)), .ref 103, .ref 104, .int (z_wc (o_M O)), .ref 105, .int x, .int y])) = lay (S, o_M' O (z_bs' (z_bc' (o_M O) x) y)) := by rfl
theorem Lwc {M : Mdl} {K W : Fn} {wc : Int32} {B : Fn} {bc bs x : Int32} : (lay (S, o_M' O (mW M K W wc B bc bs))).set 94 (.inr (6, [.ref 95, .ref 96, .ref 97, .int (z_deeds M), .ref 98, .ref 99, .ref 100, .int (z_let M), .int (z_at M), .int (z_tok M), .int (z_tat M), .ref 101, .ref 102, .int (z_seen M), .int (z_aP M), .int (z_aL M), .int (z_items M), .ref 103, .ref 104, .int x, .ref 105, .int bc, .int bs])) = lay (S, o_M' O (mW M K W x B bc bs)) := Lwcg (O := o_M' O (mW M K W wc B bc bs))
theorem Lbc {M : Mdl} {K W : Fn} {wc : Int32} {B : Fn} {bc bs x y : Int32} : (lay (S, o_M' O (mW M K W wc B bc bs))).set 94 (.inr (6, [.ref 95, .ref 96, .ref 97, .int (z_deeds M), .ref 98, .ref 99, .ref 100, .int (z_let M), .int (z_at M), .int (z_tok M), .int (z_tat M), .ref 101, .ref 102, .int (z_seen M), .int (z_aP M), .int (z_aL M), .int (z_items M), .ref 103, .ref 104, .int wc, .ref 105, .int x, .int y])) = lay (S, o_M' O (mW M K W wc B x y)) := Lbcg (O := o_M' O (mW M K W wc B bc bs))
theorem am_findWay {m n u : Nat} {K0 W0 : Fn} {wc0 : Int32} {B : Fn} {bc bs : Int32} (hm : z_now (o_M O) 4 = nI m) (h8 : m ≤ 8) (h6 : n ≤ 6) (hu : u < 2 ^ n) : AC g mX6_findWay [.ref 94, .int (nI u)] (lay (S, o_M' O (mW (o_M O) K0 W0 wc0 B bc bs))) (fun r h' => ∃ K W wc, h' = lay (S, o_M' O (mW (o_M O) K W wc B bc bs)) ∧ r = some (.int (bi (hasU n m u (mcv O) (mmf O)))) ∧ (hasU n m u (mcv O) (mmf O) = true → wc = nI (tk n m (mcv O) (mmf O) u) ∧ ∀ l, l < m → W l = nI (tw n m (mcv O) (mmf O) u l))) := by
  have hu64 : u < 64 := by have := p64 h6; omega
  have hub : ∀ t, u.testBit t = true → t < n := fun t ht => tb_lt hu ht
  have hHW := has_w (n := n) (m := m) (u := u) (cv := mcv O) (mf := mmf O) hub h6 (by omega)
  have hwl : wC m u (mcv O) (mmf O) ≤ 1000 := by
    unfold wC
    split
    · omega
    · exact mnF_le 6
  -- the way itself
  have LW : ∀ K : Fn, (∀ l s, l < m → s < 6 → K (6 * l + s) = nI (mC u (mcv O) (mmf O) (m - 1 - l) l s)) → hasU n m u (mcv O) (mmf O) = true → AW g mX6_findWay (fun r h' => ∃ K W wc, h' = lay (S, o_M' O (mW (o_M O) K W wc B bc bs)) ∧ r = some (.int (bi (hasU n m u (mcv O) (mmf O)))) ∧ (hasU n m u (mcv O) (mmf O) = true → wc = nI (tk n m (mcv O) (mmf O) u) ∧ ∀ l, l < m → W l = nI (tw n m (mcv O) (mmf O) u l))) 0 0 95 [some (.ref 94), some (.int (nI u)), some (.int (nI m)), some (.int (nI (wC m u (mcv O) (mmf O)))), some (.int (nI 0)), none] [] (lay (S, o_M' O (mW (o_M O) K W0 (nI (wC m u (mcv O) (mmf O))) B bc bs))) := by
    intro K hK hh
    obtain ⟨hw1, hw2, hw3⟩ := has_tw hu h6 h8 hh
    generalize htw : tw n m (mcv O) (mmf O) u = w at *
    rw [hw3]
    generalize hP : (fun (r : Option Value) (h' : AH) => ∃ K W wc, h' = lay (S, o_M' O (mW (o_M O) K W wc B bc bs)) ∧ r = some (.int (bi (hasU n m u (mcv O) (mmf O)))) ∧ (hasU n m u (mcv O) (mmf O) = true → wc = nI (wC m u (mcv O) (mmf O)) ∧ ∀ l, l < m → W l = nI (w l))) = Post
    have key := dn (n := m) (P := fun l => ∀ W : Fn, (∀ k, k < l → W k = nI (w k)) → AW g mX6_findWay Post 0 0 95 [some (.ref 94), some (.int (nI u)), some (.int (nI m)), some (.int (nI (if l = 0 then wC m u (mcv O) (mmf O) else mC u (mcv O) (mmf O) (m - 1 - (l - 1)) (l - 1) (w (l - 1))))), some (.int (nI l)), none] [] (lay (S, o_M' O (mW (o_M O) K W (nI (wC m u (mcv O) (mmf O))) B bc bs)))) ?_ (fun l hl ih => ?_) 0 (Nat.zero_le _)
    · exact key W0 (fun k hk => absurd hk (by omega))
    · intro W hW
      refine lpw gdX6_findWay 60 ⟨fun _ => ?_, fun h => absurd (nle (by omega) (by omega)) h⟩
      rw [← hP]
      exact ⟨rfl, K, W, _, rfl, congrArg (fun z => some (Value.int z)) (bi_t hh).symm, fun _ => ⟨rfl, hW⟩⟩
    · intro W hW
      obtain ⟨hwt, hwn, hwc⟩ := hw1 l hl
      generalize hL : (if l = 0 then wC m u (mcv O) (mmf O) else mC u (mcv O) (mmf O) (m - 1 - (l - 1)) (l - 1) (w (l - 1))) = left
      have hleft : left ≤ 1000 := by
        rw [← hL]
        split
        · exact hwl
        · exact mC_le _ _ _
      refine lpw gdX6_findWay 60 ⟨fun h => absurd h (nge (by omega) (by omega)), fun _ => ?_⟩
      have ei : ∀ s, 6 * nI l + nI s = nI (6 * l + s) := fun s => by simp only [nlit, pk_mul, nI_add]
      have J179 : AW g mX6_findWay Post 0 0 179 [some (.ref 94), some (.int (nI u)), some (.int (nI m)), some (.int (nI left)), some (.int (nI l)), some (.int (nI (w l)))] [] (lay (S, o_M' O (mW (o_M O) K W (nI (wC m u (mcv O) (mmf O))) B bc bs))) := by
        refine lpw gdX6_findWay 60 ?_
        refine ⟨_, _, rfl, vin (ei (w l)) (by omega) (by decide), ?_⟩
        refine ⟨_, _, rfl, vlit (by omega) (by decide), ?_⟩
        rw [vcl (ei (w l)) (by omega), vcl (x := nI l) rfl (by omega), show z_cuts (o_M (S, o_M' O (mW (o_M O) K W (nI (wC m u (mcv O) (mmf O))) B bc bs)).snd) (6 * l + w l) = nI (mC u (mcv O) (mmf O) (m - 1 - l) l (w l)) from hK l (w l) hl (by omega)]
        refine aw_hp L104 (awf ?_ (ih (upd W l (nI (w l))) (fun k hk => ?_)))
        · rw [← nI_1 l, if_neg (by omega), show l + 1 - 1 = l by omega]
          exact ⟨rfl, rfl, rfl, rfl, rfl, trivial⟩
        · by_cases hkl : k = l
          · subst hkl; rw [pk_us]
          · rw [pk_un hkl]; exact hW k (by omega)
      have key2 := dn (n := w l) (P := fun s => AW g mX6_findWay Post 0 0 104 [some (.ref 94), some (.int (nI u)), some (.int (nI m)), some (.int (nI left)), some (.int (nI l)), some (.int (nI s))] [] (lay (S, o_M' O (mW (o_M O) K W (nI (wC m u (mcv O) (mmf O))) B bc bs)))) ?_ (fun s hs ihs => ?_) 0 (Nat.zero_le _)
      · exact key2
      · -- found
        have J141 : ∀ x : Nat, mC u (mcv O) (mmf O) (m - 1 - l) l (w l) + x = left → AW g mX6_findWay Post 0 0 141 [some (.ref 94), some (.int (nI u)), some (.int (nI m)), some (.int (nI left)), some (.int (nI l)), some (.int (nI (w l)))] [.int (nI x), .int (nI (mC u (mcv O) (mmf O) (m - 1 - l) l (w l)))] (lay (S, o_M' O (mW (o_M O) K W (nI (wC m u (mcv O) (mmf O))) B bc bs))) := by
          intro x hx
          have ev : nI (mC u (mcv O) (mmf O) (m - 1 - l) l (w l)) + nI x = nI left := by rw [nI_add, hx]
          refine lpw gdX6_findWay 60 ⟨fun h => absurd ev h, fun _ => ⟨fun _ => J179, fun h => ?_⟩⟩
          obtain ⟨k, rfl⟩ : ∃ k, l = k + 1 := ⟨l - 1, by
            have : ¬ l = 0 := fun z => h (by rw [z]; decide)
            omega⟩
          have e1 : nI (k + 1) - 1 = nI k := nI_pred k
          obtain ⟨-, hf, -, -⟩ := hw2.2 k hl
          refine ⟨_, _, rfl, vin e1 (by omega) (by decide), ?_⟩
          rw [vcl e1 (by omega), show z_way (o_M (S, o_M' O (mW (o_M O) K W (nI (wC m u (mcv O) (mmf O))) B bc bs)).snd) k = nI (w k) from hW k (by omega)]
          refine ac_ar (by rw [e1]) (ac_to (am_mayFollow (g := g) (S := S) (O := o_M' O (mW (o_M O) K W (nI (wC m u (mcv O) (mmf O))) B bc bs)) (l := k) (s := w k) (t := w (k + 1)) (by omega) (by have := (hw1 k (by omega)).2.1; omega) (by omega)) ⟨fun _ => J179, fun z => ?_⟩)
          have z' : mmf O k (w k) (w (k + 1)) = false := (bi_e0 _).mp z
          rw [hf] at z'
          cases z'
        refine lpw gdX6_findWay 60 ⟨_, _, rfl, vin (ei (w l)) (by omega) (by decide), ?_⟩
        rw [vcl (ei (w l)) (by omega), show z_cuts (o_M (S, o_M' O (mW (o_M O) K W (nI (wC m u (mcv O) (mmf O))) B bc bs)).snd) (6 * l + w l) = nI (mC u (mcv O) (mmf O) (m - 1 - l) l (w l)) from hK l (w l) hl (by omega)]
        by_cases h0 : l = 0
        · subst h0
          refine ⟨fun _ => J141 0 ?_, fun h => absurd (by decide) h⟩
          rw [← hL, if_pos rfl, Nat.add_zero, Nat.sub_zero]
          exact (hw2.1 (by omega)).1
        · obtain ⟨k, rfl⟩ : ∃ k, l = k + 1 := ⟨l - 1, by omega⟩
          have e1 : nI (k + 1) - 1 = nI k := nI_pred k
          obtain ⟨-, hf, he, -⟩ := hw2.2 k hl
          refine ⟨fun h => absurd ((nleI (b := 0) (by omega) (by omega)).mp h) (by omega), fun _ => ?_⟩
          refine ⟨_, _, rfl, vin e1 (by omega) (by decide), ?_⟩
          rw [vcl e1 (by omega), show z_way (o_M (S, o_M' O (mW (o_M O) K W (nI (wC m u (mcv O) (mmf O))) B bc bs)).snd) k = nI (w k) from hW k (by omega)]
          have hL' : left = mC u (mcv O) (mmf O) (m - 1 - k) k (w k) := by rw [← hL, if_neg (by omega), show k + 1 - 1 = k by omega]
          have hwk := (hw1 k (by omega)).2.1
          refine ⟨fun h => J141 0 ?_, fun h => J141 1 ?_⟩
          · rw [hL', ← he, if_pos ((neqI (by omega) (by omega)).mp h)]
          · rw [hL', ← he, if_neg (fun z => h (by rw [z]))]
      · -- not yet
        have hs6 : s < 6 := by omega
        have J173 : AW g mX6_findWay Post 0 0 173 [some (.ref 94), some (.int (nI u)), some (.int (nI m)), some (.int (nI left)), some (.int (nI l)), some (.int (nI s))] [] (lay (S, o_M' O (mW (o_M O) K W (nI (wC m u (mcv O) (mmf O))) B bc bs))) :=
          lpw gdX6_findWay 60 (awl (by rw [← nI_1]; rfl) ihs)
        have hmc := mC_le (u := u) (cv := mcv O) (mf := mmf O) (m - 1 - l) l s
        refine lpw gdX6_findWay 60 ⟨_, _, rfl, vin (ei s) (by omega) (by decide), ?_⟩
        rw [vcl (ei s) (by omega), show z_cuts (o_M (S, o_M' O (mW (o_M O) K W (nI (wC m u (mcv O) (mmf O))) B bc bs)).snd) (6 * l + s) = nI (mC u (mcv O) (mmf O) (m - 1 - l) l s) from hK l s hl hs6]
        by_cases h0 : l = 0
        · subst h0
          refine ⟨fun _ => ?_, fun h => absurd (by decide) h⟩
          refine lpw gdX6_findWay 60 ⟨fun _ => J173, fun h => ?_⟩
          have h' : nI (mC u (mcv O) (mmf O) (m - 1 - 0) 0 s) + nI 0 = nI left := h
          rw [nI_add, Nat.add_zero, neqI (by omega) (by omega), ← hL, if_pos rfl, Nat.sub_zero] at h'
          exact absurd h' ((hw2.1 (by omega)).2.2 s hs)
        · obtain ⟨k, rfl⟩ : ∃ k, l = k + 1 := ⟨l - 1, by omega⟩
          have e1 : nI (k + 1) - 1 = nI k := nI_pred k
          obtain ⟨-, -, -, hno⟩ := hw2.2 k hl
          have hwk := (hw1 k (by omega)).2.1
          have hL' : left = mC u (mcv O) (mmf O) (m - 1 - k) k (w k) := by rw [← hL, if_neg (by omega), show k + 1 - 1 = k by omega]
          have J141 : ∀ x : Nat, x = (if w k = s then 0 else 1) → AW g mX6_findWay Post 0 0 141 [some (.ref 94), some (.int (nI u)), some (.int (nI m)), some (.int (nI left)), some (.int (nI (k + 1))), some (.int (nI s))] [.int (nI x), .int (nI (mC u (mcv O) (mmf O) (m - 1 - (k + 1)) (k + 1) s))] (lay (S, o_M' O (mW (o_M O) K W (nI (wC m u (mcv O) (mmf O))) B bc bs))) := by
            intro x hx
            have hx1 : x ≤ 1 := by rw [hx]; split <;> omega
            refine lpw gdX6_findWay 60 ⟨fun _ => J173, fun h => ⟨fun z => absurd ((nleI (b := 0) (by omega) (by omega)).mp z) (by omega), fun _ => ?_⟩⟩
            rw [nI_add, neqI (by omega) (by omega)] at h
            refine ⟨_, _, rfl, vin e1 (by omega) (by decide), ?_⟩
            rw [vcl e1 (by omega), show z_way (o_M (S, o_M' O (mW (o_M O) K W (nI (wC m u (mcv O) (mmf O))) B bc bs)).snd) k = nI (w k) from hW k (by omega)]
            refine ac_ar (by rw [e1]) (ac_to (am_mayFollow (g := g) (S := S) (O := o_M' O (mW (o_M O) K W (nI (wC m u (mcv O) (mmf O))) B bc bs)) (l := k) (s := w k) (t := s) (by omega) (by omega) (by omega)) ⟨fun z => ?_, fun _ => J173⟩)
            have z' : mmf O k (w k) s = true := by rw [bi_e0, Bool.not_eq_false] at z; exact z
            exact absurd ⟨z', by rw [← hx, h, hL']⟩ (hno s hs)
          refine ⟨fun h => absurd ((nleI (b := 0) (by omega) (by omega)).mp h) (by omega), fun _ => ?_⟩
          refine ⟨_, _, rfl, vin e1 (by omega) (by decide), ?_⟩
          rw [vcl e1 (by omega), show z_way (o_M (S, o_M' O (mW (o_M O) K W (nI (wC m u (mcv O) (mmf O))) B bc bs)).snd) k = nI (w k) from hW k (by omega)]
          refine ⟨fun h => J141 0 ?_, fun h => J141 1 ?_⟩
          · rw [if_pos ((neqI (by omega) (by omega)).mp h)]
          · rw [if_neg (fun z => h (by rw [z]))]
  generalize hP : (fun (r : Option Value) (h' : AH) => ∃ K W wc, h' = lay (S, o_M' O (mW (o_M O) K W wc B bc bs)) ∧ r = some (.int (bi (hasU n m u (mcv O) (mmf O)))) ∧ (hasU n m u (mcv O) (mmf O) = true → wc = nI (tk n m (mcv O) (mmf O) u) ∧ ∀ l, l < m → W l = nI (tw n m (mcv O) (mmf O) u l))) = Post at LW ⊢
  have hfin : ∀ (K W : Fn) (wc : Int32), hasU n m u (mcv O) (mmf O) = false → Post (some (.int 0)) (lay (S, o_M' O (mW (o_M O) K W wc B bc bs))) := by
    intro K W wc hh
    rw [← hP]
    exact ⟨K, W, wc, rfl, congrArg (fun z => some (Value.int z)) (bi_f hh).symm, fun z => by rw [hh] at z; cases z⟩
  refine acw gdX6_findWay 60 rfl ⟨_, _, rfl, vlit (j := 4) (by decide) (by decide), ?_⟩
  refine ac_mono (am_findCuts (g := g) (S := S) (O := o_M' O (mW (o_M O) K0 W0 wc0 B bc bs)) (K0 := K0) (W := W0) (wc := wc0) (B := B) (bc := bc) (bs := bs) hm h8 hu64) ?_
  rintro r h' ⟨rfl, K, hK, rfl⟩
  replace hK : ∀ l s, l < m → s < 6 → K (6 * l + s) = nI (mC u (mcv O) (mmf O) (m - 1 - l) l s) := hK
  have hm2 : z_now (o_M (S, o_M' O (mW (o_M O) K0 W0 wc0 B bc bs)).snd) (4 : Int32).toNatClampNeg = nI m := hm
  rw [hm2]
  by_cases h0 : m = 0
  · have hh : hasU n m u (mcv O) (mmf O) = true := by unfold hasU; simp [h0]
    have hwc : wC m u (mcv O) (mmf O) = 0 := if_pos h0
    have hl := LW K hK hh
    rw [hwc] at hl
    subst h0
    refine ⟨fun h => absurd rfl h, fun _ => ?_⟩
    refine lpw gdX6_findWay 60 ⟨fun h => absurd h (by decide), fun _ => ⟨fun _ => ?_, fun h => absurd (by decide) h⟩⟩
    refine ⟨fun _ => ?_, fun h => absurd (show (0 : Int32) < 1000 by decide) h⟩
    refine aw_hp ?_ (awl ?_ hl)
    · exact Lwc
    · rfl
  · have ew : wC m u (mcv O) (mmf O) = mnF (fun _ => true) (fun s => mC u (mcv O) (mmf O) (m - 1) 0 s) 1000 6 := if_neg h0
    have key := dn (n := 6) (P := fun s => AW g mX6_findWay Post 0 0 29 [some (.ref 94), some (.int (nI u)), some (.int (nI m)), some (.int (nI s)), none, none] [] (lay (S, o_M' O (mW (o_M O) K W0 (nI (mnF (fun _ => true) (fun s => mC u (mcv O) (mmf O) (m - 1) 0 s) 1000 s)) B bc bs)))) ?_ (fun s hs ih => ?_) 0 (Nat.zero_le _)
    · refine ⟨fun _ => ?_, fun h => absurd ((neqI (b := 0) (by omega) (by omega)).mp h) h0⟩
      exact aw_hp Lwc (awl rfl key)
    · rw [← ew]
      refine lpw gdX6_findWay 60 ⟨fun _ => ?_, fun h => absurd (by decide) h⟩
      refine ⟨fun h => ?_, fun h => ?_⟩
      · have h' := (nltI (b := 1000) (by omega) (by omega)).mp h
        have hh : hasU n m u (mcv O) (mmf O) = true := by rw [hHW]; exact decide_eq_true h'
        exact awl rfl (LW K hK hh)
      · have hh : hasU n m u (mcv O) (mmf O) = false := by
          rw [hHW]
          exact decide_eq_false (fun z => h ((nltI (b := 1000) (by omega) (by omega)).mpr z))
        exact ⟨rfl, hfin _ _ _ hh⟩
    · have hmn := mnF_le (p := fun _ => true) (c := fun s => mC u (mcv O) (mmf O) (m - 1) 0 s) (X := 1000) s
      have hmc := mC_le (u := u) (cv := mcv O) (mf := mmf O) (m - 1) 0 s
      generalize hq : mnF (fun _ => true) (fun s => mC u (mcv O) (mmf O) (m - 1) 0 s) 1000 s = q at hmn ⊢
      have eq1 : mnF (fun _ => true) (fun s => mC u (mcv O) (mmf O) (m - 1) 0 s) 1000 (s + 1) = if mC u (mcv O) (mmf O) (m - 1) 0 s < q then mC u (mcv O) (mmf O) (m - 1) 0 s else q := by
        rw [← hq]
        show (if _ then _ else _) = _
        by_cases h : mC u (mcv O) (mmf O) (m - 1) 0 s < mnF (fun _ => true) (fun s => mC u (mcv O) (mmf O) (m - 1) 0 s) 1000 s
        · rw [if_pos h, if_pos (by simp [h])]
        · rw [if_neg h, if_neg (by simp [h])]
      have J66 : ∀ v : Int32, v = nI (mnF (fun _ => true) (fun s => mC u (mcv O) (mmf O) (m - 1) 0 s) 1000 (s + 1)) → AW g mX6_findWay Post 0 0 66 [some (.ref 94), some (.int (nI u)), some (.int (nI m)), some (.int (nI s)), none, none] [.int v, .ref 94] (lay (S, o_M' O (mW (o_M O) K W0 (nI q) B bc bs))) := by
        intro v hv
        subst hv
        exact lpw gdX6_findWay 60 (aw_hp Lwc (awl (by rw [← nI_1]; rfl) ih))
      have hK0 : K s = nI (mC u (mcv O) (mmf O) (m - 1) 0 s) := by
        have := hK 0 s (by omega) hs
        rw [Nat.mul_zero, Nat.zero_add, Nat.sub_zero] at this
        exact this
      refine lpw gdX6_findWay 60 ⟨fun h => absurd h (nge (n := 6) (by omega) (by omega)), fun _ => ⟨fun h => absurd ((nleI (b := 0) (by omega) (by omega)).mp h) (by omega), fun _ => ?_⟩⟩
      refine ⟨_, _, rfl, vlit (by omega) (by decide), ?_⟩
      rw [vcl (x := nI s) rfl (by omega), show z_cuts (o_M (S, o_M' O (mW (o_M O) K W0 (nI q) B bc bs)).snd) s = nI (mC u (mcv O) (mmf O) (m - 1) 0 s) from hK0]
      refine ⟨fun h => ?_, fun h => ?_⟩
      · have h' : ¬ mC u (mcv O) (mmf O) (m - 1) 0 s < q := by
          have := (nleI (by omega) (by omega)).mp h
          omega
        refine J66 _ ?_
        rw [eq1, if_neg h']
      · have h' : mC u (mcv O) (mmf O) (m - 1) 0 s < q := by
          apply Nat.lt_of_not_le
          intro z
          exact h ((nleI (by omega) (by omega)).mpr z)
        refine ⟨_, _, rfl, vlit (by omega) (by decide), ?_⟩
        rw [vcl (x := nI s) rfl (by omega), show z_cuts (o_M (S, o_M' O (mW (o_M O) K W0 (nI q) B bc bs)).snd) s = nI (mC u (mcv O) (mmf O) (m - 1) 0 s) from hK0]
        refine J66 _ ?_
        rw [eq1, if_pos h']
end FW
end
section
/-! ===== the model's best edit ===== -/
def BM (n m : Nat) (cv : Nat → Nat → Bool) (mf : Nat → Nat → Nat → Bool) (B : Fn) (bc bs : Int32) (z v : Nat) : Prop := bs = nI z ∧ bc = nI (tk n m cv mf v) ∧ ∀ l, l < m → B l = nI (tw n m cv mf v l)
def FbP (S : Scn) (O : Oth) (n m : Nat) (r : Option Value) (h' : AH) : Prop := ∃ K W wc B bc bs, h' = lay (S, o_M' O (mW (o_M O) K W wc B bc bs)) ∧ ((fbF n m (mcv O) (mmf O) (n + 1) 0 = none ∧ r = some (.int 0)) ∨ ∃ z v, fbF n m (mcv O) (mmf O) (n + 1) 0 = some (z, v) ∧ r = some (.int 1) ∧ BM n m (mcv O) (mmf O) B bc bs z v)
section FB
variable {g : Glob} {S : Scn} {O : Oth}
theorem am_isBefore {m c d : Nat} {a b : Nat → Nat} (hm : z_now (o_M O) 4 = nI m) (h8 : m ≤ 8) (hc : z_wc (o_M O) = nI c) (hd : z_bc (o_M O) = nI d) (hc' : c ≤ 1000) (hd' : d ≤ 1000) (ha : ∀ l, l < m → z_way (o_M O) l = nI (a l) ∧ a l ≤ 6) (hb : ∀ l, l < m → z_best (o_M O) l = nI (b l) ∧ b l ≤ 6) : ACe g mX6_isBefore [.ref 94] (lay (S, O)) (some (.int (bi (decide (c < d) || (decide (c = d) && lowF a b m))))) (lay (S, O)) := by
  have ec : z_wc (o_M (S, O).snd) = nI c := hc
  have ed : z_bc (o_M (S, O).snd) = nI d := hd
  have L : c = d → AW g mX6_isBefore (fun r h' => r = some (.int (bi (decide (c < d) || (decide (c = d) && lowF a b m)))) ∧ h' = lay (S, O)) 0 0 30 [some (.ref 94), some (.int (nI 0))] [] (lay (S, O)) := by
    intro hcd
    rw [show (decide (c < d) || (decide (c = d) && lowF a b m)) = lowF a b m by simp [hcd]]
    refine dn (n := m) (P := fun l => (∀ k, k < l → a k = b k) → AW g mX6_isBefore _ 0 0 30 [some (.ref 94), some (.int (nI l))] [] (lay (S, O))) (fun hk => ?_) (fun l hl ih hk => ?_) 0 (Nat.zero_le _) (fun k hk => absurd hk (by omega))
    · refine lpw gdX6_isBefore 40 ⟨_, _, rfl, vlit (j := 4) (by decide) (by decide), ?_⟩
      exact ⟨fun _ => ⟨rfl, congrArg (fun z => some (Value.int z)) (bi_f (low_eq hk)).symm, rfl⟩, fun h => absurd (show z_now (o_M O) 4 ≤ nI m by rw [hm]; exact nle (by omega) (by omega)) h⟩
    · have ea := ha l hl
      have eb := hb l hl
      refine lpw gdX6_isBefore 40 ⟨_, _, rfl, vlit (j := 4) (by decide) (by decide), ?_⟩
      refine ⟨fun h => absurd (show z_now (o_M O) 4 ≤ nI l from h) (by rw [hm]; exact nge (by omega) (by omega)), fun _ => ?_⟩
      refine ⟨_, _, rfl, vlit (by omega) (by decide), ?_⟩
      refine ⟨_, _, rfl, vlit (by omega) (by decide), ?_⟩
      rw [vcl (x := nI l) rfl (by omega), show z_way (o_M (S, O).snd) l = _ from ea.1, show z_best (o_M (S, O).snd) l = _ from eb.1]
      refine ⟨fun h => ?_, fun h => ?_⟩
      · have h' := (neqI (by omega) (by omega)).mp h
        refine awl (by rw [← nI_1]; rfl) (ih (fun k hk' => ?_))
        by_cases hkl : k = l
        · subst hkl; exact h'
        · exact hk k (by omega)
      · have h' : a l ≠ b l := fun z => h (by rw [z])
        refine ⟨_, _, rfl, vlit (by omega) (by decide), ?_⟩
        refine ⟨_, _, rfl, vlit (by omega) (by decide), ?_⟩
        rw [vcl (x := nI l) rfl (by omega), show z_way (o_M (S, O).snd) l = _ from ea.1, show z_best (o_M (S, O).snd) l = _ from eb.1]
        refine ⟨fun h2 => ?_, fun h2 => ?_⟩
        · have h2 := (nleI (by omega) (by omega)).mp h2
          exact ⟨rfl, congrArg (fun z => some (Value.int z)) (bi_f (by rw [low_ne hl hk h']; simp; omega)).symm, rfl⟩
        · have h2 : ¬ b l ≤ a l := fun z => h2 ((nleI (by omega) (by omega)).mpr z)
          exact ⟨rfl, congrArg (fun z => some (Value.int z)) (bi_t (by rw [low_ne hl hk h']; simp; omega)).symm, rfl⟩
  refine acw gdX6_isBefore 40 rfl ⟨fun h => ?_, fun h => ⟨fun h2 => ?_, fun h2 => ?_⟩⟩
  · rw [ec, ed] at h
    exact L ((neqI (by omega) (by omega)).mp h)
  · rw [ec, ed] at h h2
    have h1 : ¬ c = d := fun z => h (by rw [z])
    have h2 := (nleI (by omega) (by omega)).mp h2
    exact ⟨rfl, congrArg (fun z => some (Value.int z)) (bi_f (by simp [h1]; omega)).symm, rfl⟩
  · rw [ec, ed] at h h2
    have h2 : ¬ d ≤ c := fun z => h2 ((nleI (by omega) (by omega)).mpr z)
    exact ⟨rfl, congrArg (fun z => some (Value.int z)) (bi_t (by simp; omega)).symm, rfl⟩
theorem am_findBest {m n : Nat} {K0 W0 : Fn} {wc0 : Int32} {B0 : Fn} {bc0 bs0 : Int32} (hm : z_now (o_M O) 4 = nI m) (h8 : m ≤ 8) (hn : z_now (o_M O) 13 = nI n) (h6 : n ≤ 6) : AC g mX6_findBest [.ref 94] (lay (S, o_M' O (mW (o_M O) K0 W0 wc0 B0 bc0 bs0))) (FbP S O n m) := by
  have e64 := p64 h6
  have key := dn (n := n + 1) (P := fun z => fbF n m (mcv O) (mmf O) (n + 1) 0 = fbF n m (mcv O) (mmf O) (n + 1 - z) z → ∀ (K W : Fn) (wc : Int32) (B : Fn) (bc bs : Int32), AW g mX6_findBest (FbP S O n m) 0 0 2 [some (.ref 94), some (.int (nI z)), none, none, none] [] (lay (S, o_M' O (mW (o_M O) K W wc B bc bs)))) ?_ (fun z hz ih => ?_) 0 (Nat.zero_le _)
  · exact acw gdX6_findBest 40 rfl (key rfl _ _ _ _ _ _)
  · intro hfb K W wc B bc bs
    rw [Nat.sub_self] at hfb
    refine lpw gdX6_findBest 60 ⟨_, _, rfl, vlit (j := 13) (by decide) (by decide), ?_⟩
    exact ⟨fun _ => ⟨rfl, K, W, wc, B, bc, bs, rfl, Or.inl ⟨hfb, rfl⟩⟩, fun h => absurd (show z_now (o_M O) 13 < nI (n + 1) by rw [hn]; exact (nltI (by omega) (by omega)).mpr (by omega)) h⟩
  · intro hfb K W wc B bc bs
    refine lpw gdX6_findBest 60 ⟨_, _, rfl, vlit (j := 13) (by decide) (by decide), ?_⟩
    refine ⟨fun h => ?_, fun _ => ?_⟩
    · have h' : z_now (o_M O) 13 < nI z := h
      rw [hn] at h'
      have := (nltI (by omega) (by omega)).mp h'
      omega
    have key2 := dn (n := 2 ^ n) (P := fun u => ∀ (K W : Fn) (wc : Int32) (B : Fn) (bc bs : Int32), (∀ v, fsF n m (mcv O) (mmf O) z u = some v → BM n m (mcv O) (mmf O) B bc bs z v) → AW g mX6_findBest (FbP S O n m) 0 0 17 [some (.ref 94), some (.int (nI z)), some (.int (bi (fsF n m (mcv O) (mmf O) z u).isSome)), some (.int (nI u)), none] [] (lay (S, o_M' O (mW (o_M O) K W wc B bc bs)))) ?_ (fun u hu ihu => ?_) 0 (Nat.zero_le _)
    · exact key2 _ _ _ _ _ _ (fun v hv => by cases hv)
    · intro K W wc B bc bs hB
      refine lpw gdX6_findBest 60 ⟨_, _, rfl, vlit (j := 13) (by decide) (by decide), ?_⟩
      refine ⟨fun _ => ?_, fun h => ?_⟩
      · have ek : n + 1 - z = (n - z) + 1 := by omega
        rw [ek] at hfb
        unfold fbF at hfb
        cases hf : fsF n m (mcv O) (mmf O) z (2 ^ n) with
        | none =>
          rw [hf] at hfb
          refine ⟨fun _ => ?_, fun h => absurd rfl h⟩
          refine awf ?_ (ih (by rw [show n + 1 - (z + 1) = n - z by omega]; exact hfb) K W wc B bc bs)
          rw [← nI_1]
          exact ⟨rfl, rfl, trivial⟩
        | some v =>
          rw [hf] at hfb
          refine ⟨fun h => absurd h n01, fun _ => ?_⟩
          exact ⟨rfl, K, W, wc, B, bc, bs, rfl, Or.inr ⟨z, v, hfb, rfl, hB v hf⟩⟩
      · refine absurd (show (1 : Int32) <<< (z_now (o_M O) 13 &&& 31) ≤ nI (2 ^ n) from ?_) h
        rw [hn, shlI n (by omega)]
        exact nle (Nat.le_refl _) (by omega)
    · intro K W wc B bc bs hB
      have hu64 : u < 64 := by omega
      have J102 : ∀ (K W : Fn) (wc : Int32) (B : Fn) (bc bs : Int32) (f : Int32), f = bi (fsF n m (mcv O) (mmf O) z (u + 1)).isSome → (∀ v, fsF n m (mcv O) (mmf O) z (u + 1) = some v → BM n m (mcv O) (mmf O) B bc bs z v) → AW g mX6_findBest (FbP S O n m) 0 0 102 [some (.ref 94), some (.int (nI z)), some (.int f), some (.int (nI u)), none] [] (lay (S, o_M' O (mW (o_M O) K W wc B bc bs))) := by
        intro K W wc B bc bs f hf hB
        subst hf
        exact lpw gdX6_findBest 60 (awl (by rw [← nI_1]; rfl) (ihu K W wc B bc bs hB))
      have J57 : ∀ (K W : Fn) (f : Int32), (∀ l, l < m → W l = nI (tw n m (mcv O) (mmf O) u l)) → fsF n m (mcv O) (mmf O) z (u + 1) = some u → AW g mX6_findBest (FbP S O n m) 0 0 57 [some (.ref 94), some (.int (nI z)), some (.int f), some (.int (nI u)), none] [] (lay (S, o_M' O (mW (o_M O) K W (nI (tk n m (mcv O) (mmf O) u)) B bc bs))) := by
        intro K W f hW hfs
        generalize hT : nI (tk n m (mcv O) (mmf O) u) = T
        have L := dn (n := 8) (P := fun l => AW g mX6_findBest (FbP S O n m) 0 0 75 [some (.ref 94), some (.int (nI z)), some (.int 1), some (.int (nI u)), some (.int (nI l))] [] (lay (S, o_M' O (mW (o_M O) K W T (va_cpy W B 0 0 l) T (nI z))))) ?_ (fun l hl ihl => ?_) 0 (Nat.zero_le _)
        · rw [cpy_0] at L
          refine lpw gdX6_findBest 60 ?_
          refine aw_hp ?_ L
          show List.set (List.set (lay (S, o_M' O (mW (o_M O) K W T B bc bs))) 94 (.inr (6, [.ref 95, .ref 96, .ref 97, .int (z_deeds (o_M O)), .ref 98, .ref 99, .ref 100, .int (z_let (o_M O)), .int (z_at (o_M O)), .int (z_tok (o_M O)), .int (z_tat (o_M O)), .ref 101, .ref 102, .int (z_seen (o_M O)), .int (z_aP (o_M O)), .int (z_aL (o_M O)), .int (z_items (o_M O)), .ref 103, .ref 104, .int T, .ref 105, .int bc, .int (nI z)]))) 94 (.inr (6, [.ref 95, .ref 96, .ref 97, .int (z_deeds (o_M O)), .ref 98, .ref 99, .ref 100, .int (z_let (o_M O)), .int (z_at (o_M O)), .int (z_tok (o_M O)), .int (z_tat (o_M O)), .ref 101, .ref 102, .int (z_seen (o_M O)), .int (z_aP (o_M O)), .int (z_aL (o_M O)), .int (z_items (o_M O)), .ref 103, .ref 104, .int T, .ref 105, .int T, .int (nI z)])) = _
          rw [List.set_set]
          exact Lbc
        · refine lpw gdX6_findBest 60 ⟨fun _ => ?_, fun h => absurd (by decide) h⟩
          refine awf ?_ (J102 K W T (va_cpy W B 0 0 8) T (nI z) 1 (by rw [hfs]; rfl) (fun v hv => ?_))
          · exact ⟨rfl, rfl, rfl, rfl, trivial⟩
          · rw [hfs] at hv; cases hv
            refine ⟨rfl, hT.symm, fun l hl => ?_⟩
            rw [pk_cpy_in (by omega) (by omega), show 0 + (l - 0) = l by omega]
            exact hW l hl
        · have e1 := cpy_step (f := W) (t := B) (i := 0) (j := 0) (k := l)
          rw [Nat.zero_add] at e1
          rw [← e1] at ihl
          refine lpw gdX6_findBest 60 ⟨fun h => absurd h (nge (n := 8) (by omega) (by omega)), fun _ => ?_⟩
          refine ⟨_, _, rfl, vlit (by omega) (by decide), ?_⟩
          refine ⟨_, _, rfl, vlit (by omega) (by decide), ?_⟩
          rw [vcl (x := nI l) rfl (by omega)]
          exact aw_hp L105 (awl (by rw [← nI_1]; rfl) ihl)
      refine lpw gdX6_findBest 60 ⟨_, _, rfl, vlit (j := 13) (by decide) (by decide), ?_⟩
      refine ⟨fun h => ?_, fun _ => ?_⟩
      · have h' : (1 : Int32) <<< (z_now (o_M O) 13 &&& 31) ≤ nI u := h
        rw [hn, shlI n (by omega)] at h'
        exact absurd h' (nge hu (by omega))
      refine ac_to (am_ones hu64 _) ?_
      have hpop : pop6 u ≤ 6 := by unfold pop6; omega
      refine ⟨fun h => ?_, fun h => ?_⟩
      · have h' : ¬ pop6 u = z := fun w => h (by rw [w])
        refine J102 _ _ _ _ _ _ _ ?_ ?_
        · rw [fs_no (by simp [h'])]
        · rw [fs_no (by simp [h'])]; exact hB
      have hpz : pop6 u = z := (neqI (by omega) (by omega)).mp h
      refine ac_mono (am_findWay (g := g) (S := S) (O := O) (n := n) (u := u) hm h8 h6 hu) ?_
      rintro r h' ⟨K2, W2, wc2, rfl, rfl, hW2⟩
      refine ⟨fun h => ?_, fun h => ?_⟩
      · have hh : hasU n m u (mcv O) (mmf O) = false := (bi_e0 _).mp h
        refine J102 _ _ _ _ _ _ _ ?_ ?_
        · rw [fs_no (by simp [hh])]
        · rw [fs_no (by simp [hh])]; exact hB
      have hh : hasU n m u (mcv O) (mmf O) = true := by rw [bi_e0, Bool.not_eq_false] at h; exact h
      obtain ⟨hwc, hw⟩ := hW2 hh
      subst hwc
      cases hfs : fsF n m (mcv O) (mmf O) z u with
      | none => exact ⟨fun _ => J57 K2 W2 _ hw (fs_ye hpz hh (fun v hv => by rw [hfs] at hv; cases hv)), fun h => absurd rfl h⟩
      | some v =>
        refine ⟨fun h => absurd h n01, fun _ => ?_⟩
        obtain ⟨b1, b2, b3⟩ := hB v hfs
        have hvv := fs_in _ _ hfs
        obtain ⟨hv1, -, -⟩ := has_tw (u := v) (by omega) h6 h8 hvv.2
        obtain ⟨hu1, -, -⟩ := has_tw hu h6 h8 hh
        have htu := tk_le (n := n) (m := m) (cv := mcv O) (mf := mmf O) (u := u) h6 h8
        have htv := tk_le (n := n) (m := m) (cv := mcv O) (mf := mmf O) (u := v) h6 h8
        refine ac_to (am_isBefore (g := g) (S := S) (O := o_M' O (mW (o_M O) K2 W2 (nI (tk n m (mcv O) (mmf O) u)) B bc bs)) (m := m) (c := tk n m (mcv O) (mmf O) u) (d := tk n m (mcv O) (mmf O) v) (a := tw n m (mcv O) (mmf O) u) (b := tw n m (mcv O) (mmf O) v) hm h8 rfl b2 (by omega) (by omega) (fun l hl => ⟨hw l hl, by have := (hu1 l hl).2.1; omega⟩) (fun l hl => ⟨b3 l hl, by have := (hv1 l hl).2.1; omega⟩)) ⟨fun h3 => ?_, fun h3 => ?_⟩
        · have hl : ltU n m (mcv O) (mmf O) u v = false := (bi_e0 _).mp h3
          have hst := fs_st hfs hl
          refine J102 _ _ _ _ _ _ _ ?_ (fun w hw => ?_)
          · rw [hst]
          · rw [hst] at hw; cases hw
            exact ⟨b1, b2, b3⟩
        · have hl : ltU n m (mcv O) (mmf O) u v = true := by rw [bi_e0, Bool.not_eq_false] at h3; exact h3
          refine J57 K2 W2 _ hw (fs_ye hpz hh (fun w hw' => ?_))
          rw [hfs] at hw'; cases hw'
          exact hl
end FB
end
section
/-! ===== the pairs whose answers come with cells that are not told ===== -/
def PrA (g : Glob) (Mx Mm : Mth) (as : List Value) : Prop := ∀ X : St, Inv X → AC g Mx (.ref 0 :: as) (lay X) (fun r h1 => ∃ (v : Int32) (X1 : St), r = some (.int v) ∧ h1 = lay X1 ∧ AC g Mm (.ref 94 :: as) (lay X1) (fun r2 h2 => r2 = some (.int v) ∧ ∃ X2 : St, h2 = lay X2 ∧ Inv X2))
theorem Pr.a {g : Glob} {Mx Mm : Mth} {as : List Value} (h : Pr g Mx Mm as) : PrA g Mx Mm as := fun X hI => by
  obtain ⟨v, X1, X2, h1, h2, h3⟩ := h X hI
  exact ac_mono h1 (fun r h' z => ⟨v, X1, z.1, z.2, ac_mono h2 (fun r h' z => ⟨z.1, X2, z.2, h3⟩)⟩)
theorem PS.md {S : Scn} {r : Fn} {Q : Pln} {m n : Nat} (hS : ScC S r m n) (h : PS Q m n (cvL (s_fc S)) (mfA (s_pl S) (s_fc S) (s_sp S))) : PS Q m n (cvL (fcr r)) (mfA r (fcr r) (spr r)) := by
  refine ⟨h.1, h.2.1, fun l hl => ?_, fun l s hl hs => ?_⟩
  · rw [h.2.2.1 l hl]
    exact congrArg nI (msk_cg n (fun t ht => hS.cv ht))
  · rw [h.2.2.2 l s hl hs]
    refine congrArg nI (msk_cg n (fun t ht => ?_))
    show (mfA (s_pl S) (s_fc S) (s_sp S) l s t && cvA (s_fc S) t (l + 1)) = _
    unfold mfA
    rw [hS.cn hs ht, hS.re hs (l := l) (by omega), hS.re ht hl, hS.cv ht]
theorem ixm (k : Int32) {m : Nat} (hm : m ≤ 2000) : k < -2 ∨ k = -2 ∨ k = -1 ∨ nI m ≤ k ∨ ∃ j : Nat, j < m ∧ k = nI j := by
  rcases ix k hm with h | h | h
  · have h0 : (0 : Int32).toInt = 0 := by decide
    have h2 : (-2 : Int32).toInt = -2 := by decide
    have h1 : (-1 : Int32).toInt = -1 := by decide
    by_cases a : k < -2
    · exact Or.inl a
    rw [Int32.lt_iff_toInt_lt, h0] at h
    rw [Int32.lt_iff_toInt_lt, h2] at a
    rcases (show k.toInt = -2 ∨ k.toInt = -1 by omega) with z | z
    · exact Or.inr (Or.inl (Int32.toInt_inj.mp (z.trans h2.symm)))
    · exact Or.inr (Or.inr (Or.inl (Int32.toInt_inj.mp (z.trans h1.symm))))
  · exact Or.inr (Or.inr (Or.inr (Or.inl h)))
  · exact Or.inr (Or.inr (Or.inr (Or.inr h)))
/-- what best(k) answers -/
def bAns (n m : Nat) (cv : Nat → Nat → Bool) (mf : Nat → Nat → Nat → Bool) (k : Int32) : Int32 := match fbF n m cv mf (n + 1) 0 with
  | none => -9
  | some (z, v) => if k = -2 then nI z else if k = -1 then nI (tk n m cv mf v) else nI (tw n m cv mf v k.toNatClampNeg)
section PE
variable {g : Glob} {S : Scn} {O : Oth}
theorem am_best {m n : Nat} (k : Int32) (hm : z_now (o_M O) 4 = nI m) (h8 : m ≤ 8) (hn : z_now (o_M O) 13 = nI n) (h6 : n ≤ 6) (h1 : ¬ k < -2) (h2 : k < nI m) : AC g mX6_best [.ref 94, .int k] (lay (S, O)) (fun r h' => r = some (.int (bAns n m (mcv O) (mmf O) k)) ∧ ∃ K W wc B bc bs, h' = lay (S, o_M' O (mW (o_M O) K W wc B bc bs))) := by
  refine acw gdX6_best 60 rfl ⟨fun h => absurd h h1, fun _ => ?_⟩
  refine ⟨_, _, rfl, vlit (j := 4) (by decide) (by decide), ?_⟩
  refine ⟨fun _ => ?_, fun h => absurd (show k < z_now (o_M O) 4 by rw [hm]; exact h2) h⟩
  refine ac_mono (am_findBest (g := g) (S := S) (O := O) (K0 := z_cuts (o_M O)) (W0 := z_way (o_M O)) (wc0 := z_wc (o_M O)) (B0 := z_best (o_M O)) (bc0 := z_bc (o_M O)) (bs0 := z_bs (o_M O)) hm h8 hn h6) ?_
  rintro r h' ⟨K, W, wc, B, bc, bs, rfl, ⟨hf, rfl⟩ | ⟨z, v, hf, rfl, hB⟩⟩
  · refine ⟨fun h => absurd rfl h, fun _ => ⟨?_, K, W, wc, B, bc, bs, rfl⟩⟩
    unfold bAns
    rw [hf]
  · refine ⟨fun _ => ?_, fun h => absurd h n01⟩
    obtain ⟨b1, b2, b3⟩ := hB
    refine ⟨fun h3 => ⟨fun h4 => ?_, fun h4 => ?_⟩, fun h3 => ?_⟩
    · obtain ⟨j, hj, rfl⟩ : ∃ j : Nat, j < m ∧ k = nI j := by
        rcases ixm k (m := m) (by omega) with h | h | h | h | h
        · exact absurd h h1
        · exact absurd h h3
        · exact absurd h h4
        · exact absurd h2 (Int32.not_lt.mpr h)
        · exact h
      refine ⟨_, _, rfl, vlit (by omega) (by decide), ?_⟩
      refine ⟨congrArg (fun z => some (Value.int z)) ?_, K, W, wc, B, bc, bs, rfl⟩
      unfold bAns
      rw [hf]
      show B (nI j).toNatClampNeg = _
      rw [vcl (x := nI j) rfl (by omega), b3 j hj]
      dsimp only
      rw [if_neg h3, if_neg h4]
    · refine ⟨congrArg (fun z => some (Value.int z)) ?_, K, W, wc, B, bc, bs, rfl⟩
      unfold bAns
      rw [hf]
      show bc = _
      dsimp only
      rw [b2, if_neg h3, if_pos h4]
    · refine ⟨congrArg (fun z => some (Value.int z)) ?_, K, W, wc, B, bc, bs, rfl⟩
      unfold bAns
      rw [hf]
      show bs = _
      dsimp only
      rw [b1, if_pos h3]
theorem pa_best (k : Int32) : PrA g mX5_best mX6_best [.int k] := by
  rintro ⟨S, O⟩ hI
  have hI0 := hI
  obtain ⟨hR, hP, i3, i4, i5⟩ := hI
  have hR0 := hR
  obtain ⟨eo, m, n, hS, hw⟩ := hR
  have h8 := hw.2.1
  have h6 := hw.2.2.2.1
  by_cases hb : k < -2 ∨ nI m ≤ k
  · refine acw gdX5_best 60 rfl ⟨fun _ => ?_, fun h1 => ⟨fun h => ?_, fun _ => ?_⟩⟩
    · refine ⟨-1, (S, O), rfl, rfl, ?_⟩
      refine acw gdX6_best 60 rfl ⟨fun _ => ⟨rfl, (S, O), rfl, hI0⟩, fun h1 => ?_⟩
      refine ⟨_, _, rfl, vlit (j := 4) (by decide) (by decide), ?_⟩
      refine ⟨fun h => ?_, fun _ => ⟨rfl, (S, O), rfl, hI0⟩⟩
      rcases hb with hb | hb
      · exact absurd hb h1
      · exact absurd (show k < z_now (o_M O) 4 from h) (by rw [hw.1]; exact Int32.not_lt.mpr hb)
    · rcases hb with hb | hb
      · exact absurd hb h1
      · exact absurd (show k < s_nl S from h) (by rw [hS.1]; exact Int32.not_lt.mpr hb)
    · refine ⟨-1, (S, O), rfl, rfl, ?_⟩
      refine acw gdX6_best 60 rfl ⟨fun _ => ⟨rfl, (S, O), rfl, hI0⟩, fun h1 => ?_⟩
      refine ⟨_, _, rfl, vlit (j := 4) (by decide) (by decide), ?_⟩
      refine ⟨fun h => ?_, fun _ => ⟨rfl, (S, O), rfl, hI0⟩⟩
      rcases hb with hb | hb
      · exact absurd hb h1
      · exact absurd (show k < z_now (o_M O) 4 from h) (by rw [hw.1]; exact Int32.not_lt.mpr hb)
  have h1 : ¬ k < -2 := fun z => hb (Or.inl z)
  have h2 : k < nI m := Int32.not_le.mp (fun z => hb (Or.inr z))
  have ML : ∀ Q2 : Pln, AC g mX6_best [.ref 94, .int k] (lay (S, o_Q' O Q2)) (fun r2 h2 => r2 = some (.int (bAns n m (mcv O) (mmf O) k)) ∧ ∃ X2 : St, h2 = lay X2 ∧ Inv X2) := fun Q2 => by
    refine ac_mono (am_best (g := g) (S := S) (O := o_Q' O Q2) (n := n) k hw.1 h8 hw.2.2.1 h6 h1 h2) ?_
    rintro r h' ⟨rfl, K, W, wc, B, bc, bs, rfl⟩
    exact ⟨rfl, (S, o_M' (o_Q' O Q2) (mW (o_M O) K W wc B bc bs)), rfl, ⟨hR0, hP, i3, i4, i5⟩⟩
  refine acw gdX5_best 60 rfl ⟨fun h => absurd h h1, fun _ => ⟨fun _ => ?_, fun h => absurd (show k < s_nl S by rw [hS.1]; exact h2) h⟩⟩
  refine ac_mono (ac_study (g := g) (S := S) (O := O) hS.1 h8 hS.2.1 h6 (hS.okp hw) (hS.okf hw)) ?_
  rintro r h' ⟨rfl, Q, hQ, -, rfl⟩
  have hQ := hQ.md hS
  refine ac_mono (ac_findBest (g := g) (S := S) (O := o_Q' O Q) hQ h8 h6) ?_
  rintro r h' ⟨Q2, hQ2, rfl, ⟨hf, rfl⟩ | ⟨z, v, hf, rfl, hB⟩⟩
  · refine ⟨fun h => absurd rfl h, fun _ => ⟨_, (S, o_Q' O Q2), ?_, rfl, ML Q2⟩⟩
    unfold bAns
    rw [show fbF n m (mcv O) (mmf O) (n + 1) 0 = none from hf]
  · refine ⟨fun _ => ?_, fun h => absurd h n01⟩
    obtain ⟨b1, b2, b3⟩ := hB
    have hf : fbF n m (mcv O) (mmf O) (n + 1) 0 = some (z, v) := hf
    refine ⟨fun h3 => ⟨fun h4 => ?_, fun h4 => ?_⟩, fun h3 => ?_⟩
    · obtain ⟨j, hj, rfl⟩ : ∃ j : Nat, j < m ∧ k = nI j := by
        rcases ixm k (m := m) (by omega) with h | h | h | h | h
        · exact absurd h h1
        · exact absurd h h3
        · exact absurd h h4
        · exact absurd h2 (Int32.not_lt.mpr h)
        · exact h
      refine ⟨_, _, rfl, vlit (by omega) (by decide), ?_⟩
      refine ⟨_, (S, o_Q' O Q2), congrArg (fun z => some (Value.int z)) ?_, rfl, ML Q2⟩
      unfold bAns
      rw [hf]
      show p_bes Q2 (nI j).toNatClampNeg = _
      rw [vcl (x := nI j) rfl (by omega), b3 j hj]
      dsimp only
      rw [if_neg h3, if_neg h4]
    · refine ⟨_, (S, o_Q' O Q2), congrArg (fun z => some (Value.int z)) ?_, rfl, ML Q2⟩
      unfold bAns
      rw [hf]
      show p_bc Q2 = _
      dsimp only
      rw [b2, if_neg h3, if_pos h4]
    · refine ⟨_, (S, o_Q' O Q2), congrArg (fun z => some (Value.int z)) ?_, rfl, ML Q2⟩
      unfold bAns
      rw [hf]
      show p_bz Q2 = _
      dsimp only
      rw [b1, if_pos h3]
/-! needed -/
def nAns (n m : Nat) (cv : Nat → Nat → Bool) (mf : Nat → Nat → Nat → Bool) : Nat := if hasU n m (2 ^ n - 1) cv mf then msk (fun s => !hasU n m ((2 ^ n - 1) &&& (63 ^^^ 2 ^ s)) cv mf) n else 0
theorem am_needed {m n : Nat} (hm : z_now (o_M O) 4 = nI m) (h8 : m ≤ 8) (hn : z_now (o_M O) 13 = nI n) (h6 : n ≤ 6) : AC g mX6_needed [.ref 94] (lay (S, O)) (fun r h' => r = some (.int (nI (nAns n m (mcv O) (mmf O)))) ∧ ∃ K W wc, h' = lay (S, o_M' O (mW (o_M O) K W wc (z_best (o_M O)) (z_bc (o_M O)) (z_bs (o_M O))))) := by
  have hall := all_lt h6
  have h1n : 1 ≤ 2 ^ n := Nat.one_le_two_pow
  have ea : (1 : Int32) <<< (z_now (o_M O) 13 &&& 31) - 1 = nI (2 ^ n - 1) := by
    rw [hn, shlI n (by omega)]
    obtain ⟨j, hj⟩ : ∃ j, 2 ^ n = j + 1 := ⟨2 ^ n - 1, by omega⟩
    rw [hj, nI_pred]
    rfl
  have hAn : 2 ^ n - 1 < 2 ^ n := by omega
  unfold nAns
  generalize hA : 2 ^ n - 1 = A at *
  have key := dn (n := n) (P := fun i => ∀ (K W : Fn) (wc : Int32), (i = 0 ∨ hasU n m A (mcv O) (mmf O) = true) → AW g mX6_needed (fun r h' => r = some (.int (nI (if hasU n m A (mcv O) (mmf O) then msk (fun s => !hasU n m (A &&& (63 ^^^ 2 ^ s)) (mcv O) (mmf O)) n else 0))) ∧ ∃ K W wc, h' = lay (S, o_M' O (mW (o_M O) K W wc (z_best (o_M O)) (z_bc (o_M O)) (z_bs (o_M O))))) 0 0 16 [some (.ref 94), some (.int (nI A)), some (.int (nI (msk (fun s => !hasU n m (A &&& (63 ^^^ 2 ^ s)) (mcv O) (mmf O)) i))), some (.int (nI i))] [] (lay (S, o_M' O (mW (o_M O) K W wc (z_best (o_M O)) (z_bc (o_M O)) (z_bs (o_M O)))))) ?_ (fun i hi ih => ?_) 0 (Nat.zero_le _)
  · refine acw gdX6_needed 60 rfl ?_
    refine ⟨_, _, rfl, vlit (j := 13) (by decide) (by decide), ?_⟩
    refine awl ?_ (key (z_cuts (o_M O)) (z_way (o_M O)) (z_wc (o_M O)) (Or.inl rfl))
    show [some (Value.ref 94), some (Value.int ((1 : Int32) <<< (z_now (o_M O) 13 &&& 31) - 1)), some (Value.int 0), some (Value.int 0)] = _
    rw [ea]
    rfl
  · intro K W wc hh
    refine lpw gdX6_needed 60 ⟨_, _, rfl, vlit (j := 13) (by decide) (by decide), ?_⟩
    refine ⟨fun _ => ⟨?_, K, W, wc, rfl⟩, fun h => absurd (show z_now (o_M O) 13 ≤ nI n by rw [hn]; exact nle (by omega) (by omega)) h⟩
    refine congrArg (fun z => some (Value.int (nI z))) ?_
    rcases hh with hh | hh
    · rw [hh]
      split <;> rfl
    · rw [if_pos hh]
  · intro K W wc hh
    refine lpw gdX6_needed 60 ⟨_, _, rfl, vlit (j := 13) (by decide) (by decide), ?_⟩
    refine ⟨fun h => absurd (show z_now (o_M O) 13 ≤ nI i from h) (by rw [hn]; exact nge (by omega) (by omega)), fun _ => ?_⟩
    refine ac_mono (am_findWay (g := g) (S := S) (O := O) (n := n) (u := A) hm h8 h6 hAn) ?_
    rintro r h' ⟨K2, W2, wc2, rfl, rfl, -⟩
    refine ⟨fun h => ?_, fun h => ?_⟩
    · have h' := (bi_e0 _).mp h
      rw [h'] at hh
      obtain rfl : i = 0 := by
        rcases hh with hh | hh
        · exact hh
        · cases hh
      refine ⟨?_, K2, W2, wc2, rfl⟩
      rw [h']
      rfl
    · have hA1 : hasU n m A (mcv O) (mmf O) = true := by rw [bi_e0, Bool.not_eq_false] at h; exact h
      refine ac_ar (by rw [notI A hall i (by omega)]) (ac_mono (am_findWay (g := g) (S := S) (O := O) (n := n) (u := A &&& (63 ^^^ 2 ^ i)) hm h8 h6 (Nat.lt_of_le_of_lt Nat.and_le_left hAn)) ?_)
      rintro r h' ⟨K3, W3, wc3, rfl, rfl, -⟩
      refine ⟨fun h => awl ?_ (ih K3 W3 wc3 (Or.inr hA1)), fun h => awl ?_ (ih K3 W3 wc3 (Or.inr hA1))⟩
      · rw [← msk_or (p := fun s => !hasU n m (A &&& (63 ^^^ 2 ^ s)) (mcv O) (mmf O)) (by omega) (by rw [(bi_e0 _).mp h]; rfl), ← nI_1]
        rfl
      · rw [bi_e0, Bool.not_eq_false] at h
        rw [msk_no (p := fun s => !hasU n m (A &&& (63 ^^^ 2 ^ s)) (mcv O) (mmf O)) (by simp [h]), ← nI_1]
        simp only [or0]
        rfl
theorem pa_needed : PrA g mX5_needed mX6_needed [] := by
  rintro ⟨S, O⟩ hI
  obtain ⟨hR, hP, i3, i4, i5⟩ := hI
  have hR0 := hR
  obtain ⟨eo, m, n, hS, hw⟩ := hR
  have h8 := hw.2.1
  have h6 := hw.2.2.2.1
  refine acw gdX5_needed 60 rfl ?_
  refine ac_mono (ac_study (g := g) (S := S) (O := O) hS.1 h8 hS.2.1 h6 (hS.okp hw) (hS.okf hw)) ?_
  rintro r h' ⟨rfl, Q, hQ, -, rfl⟩
  have hQ := hQ.md hS
  refine ac_to (ac_neededShots (g := g) (S := S) (O := o_Q' O Q) hQ h8 h6) ?_
  refine ⟨nI (nAns n m (mcv O) (mmf O)), (S, o_Q' O Q), rfl, rfl, ?_⟩
  refine ac_mono (am_needed (g := g) (S := S) (O := o_Q' O Q) (n := n) hw.1 h8 hw.2.2.1 h6) ?_
  rintro r h' ⟨rfl, K, W, wc, rfl⟩
  exact ⟨rfl, (S, o_M' (o_Q' O Q) (mW (o_M O) K W wc (z_best (o_M O)) (z_bc (o_M O)) (z_bs (o_M O)))), rfl, ⟨hR0, hP, i3, i4, i5⟩⟩
end PE
end
section
section PC
variable {g : Glob} {S : Scn} {O : Oth}
/-- what cheapest(k) answers -/
def cAns (n m : Nat) (cv : Nat → Nat → Bool) (mf : Nat → Nat → Nat → Bool) (pr : Nat → Int32) (k : Int32) : Int32 := match chF n m cv mf pr (2 ^ n) with
  | none => -9
  | some v => if k = 0 then nI v else FP.f2i (FP.fmul (UInt32.ofNat 1148846080) (dF pr v n))
theorem am_cheapest {m n : Nat} (k : Int32) (hm : z_now (o_M O) 4 = nI m) (h8 : m ≤ 8) (hn : z_now (o_M O) 13 = nI n) (h6 : n ≤ 6) (hp : ∀ s, s < n → ∃ q : Nat, q ≤ 9 ∧ fcr (z_now (o_M O)) (7 * s + 6) = nI q) (hk : (!decide (k < 0) && !decide (1 < k)) = true) : AC g mX6_cheapest [.ref 94, .int k] (lay (S, O)) (fun r h' => r = some (.int (cAns n m (mcv O) (mmf O) (fun s => fcr (z_now (o_M O)) (7 * s + 6)) k)) ∧ ∃ K W wc, h' = lay (S, o_M' O (mW (o_M O) K W wc (z_best (o_M O)) (z_bc (o_M O)) (z_bs (o_M O))))) := by
  have e64 := p64 h6
  generalize hpr : (fun s => fcr (z_now (o_M O)) (7 * s + 6)) = pr at *
  have hp' : ∀ s, s < n → ∃ q : Nat, q ≤ 9 ∧ pr s = nI q := fun s hs => by rw [← hpr]; exact hp s hs
  have DE : ∀ (K W : Fn) (wc : Int32) (u : Nat), u < 64 → ACe g mX6_dearOf [.ref 94, .int (nI u)] (lay (S, o_M' O (mW (o_M O) K W wc (z_best (o_M O)) (z_bc (o_M O)) (z_bs (o_M O))))) (some (.float (dF pr u n))) (lay (S, o_M' O (mW (o_M O) K W wc (z_best (o_M O)) (z_bc (o_M O)) (z_bs (o_M O))))) := fun K W wc u hu => by
    have := am_dearOf (g := g) (S := S) (O := o_M' O (mW (o_M O) K W wc (z_best (o_M O)) (z_bc (o_M O)) (z_bs (o_M O)))) h6 hu hn hp
    rw [show (fun s => fcr (z_now (o_M (o_M' O (mW (o_M O) K W wc (z_best (o_M O)) (z_bc (o_M O)) (z_bs (o_M O)))))) (7 * s + 6)) = pr from hpr] at this
    exact this
  have key := dn (n := 2 ^ n) (P := fun u => ∀ (K W : Fn) (wc : Int32), AW g mX6_cheapest (fun r h' => r = some (.int (cAns n m (mcv O) (mmf O) pr k)) ∧ ∃ K W wc, h' = lay (S, o_M' O (mW (o_M O) K W wc (z_best (o_M O)) (z_bc (o_M O)) (z_bs (o_M O))))) 0 0 16 [some (.ref 94), some (.int k), some (.int (sh (chF n m (mcv O) (mmf O) pr u))), some (.int (nI u))] [] (lay (S, o_M' O (mW (o_M O) K W wc (z_best (o_M O)) (z_bc (o_M O)) (z_bs (o_M O)))))) ?_ (fun u hu ih => ?_) 0 (Nat.zero_le _)
  · refine acw gdX6_cheapest 60 rfl (ac_to (am_in _ _ _ _) ⟨fun _ => ?_, fun h => ?_⟩)
    · exact key (z_cuts (o_M O)) (z_way (o_M O)) (z_wc (o_M O))
    · exact absurd h (by rw [show (!decide (k < 0) && !decide (1 < k)) = true from hk]; decide)
  · intro K W wc
    refine lpw gdX6_cheapest 60 ⟨_, _, rfl, vlit (j := 13) (by decide) (by decide), ?_⟩
    refine ⟨fun _ => ?_, fun h => ?_⟩
    · cases hc : chF n m (mcv O) (mmf O) pr (2 ^ n) with
      | none =>
        refine ⟨fun h => absurd rfl h, fun _ => ⟨?_, K, W, wc, rfl⟩⟩
        unfold cAns
        rw [hc]
      | some v =>
        have hv := ch_in _ _ hc
        refine ⟨fun _ => ⟨fun h0 => ?_, fun h0 => ?_⟩, fun h => absurd h (nI_ne9 (by omega))⟩
        · refine ac_to (DE K W wc v (by omega)) ⟨(dF_n (u := v) h6 hp' (Nat.le_refl n)).2, ?_, K, W, wc, rfl⟩
          unfold cAns
          rw [hc]
          dsimp only
          rw [if_neg h0]
        · refine ⟨?_, K, W, wc, rfl⟩
          unfold cAns
          rw [hc]
          dsimp only
          rw [if_pos h0]
          rfl
    · refine absurd (show (1 : Int32) <<< (z_now (o_M O) 13 &&& 31) ≤ nI (2 ^ n) from ?_) h
      rw [hn, shlI n (by omega)]
      exact nle (Nat.le_refl _) (by omega)
  · intro K W wc
    have hu64 : u < 64 := by omega
    have J59 : ∀ (K W : Fn) (wc c : Int32), c = sh (chF n m (mcv O) (mmf O) pr (u + 1)) → AW g mX6_cheapest (fun r h' => r = some (.int (cAns n m (mcv O) (mmf O) pr k)) ∧ ∃ K W wc, h' = lay (S, o_M' O (mW (o_M O) K W wc (z_best (o_M O)) (z_bc (o_M O)) (z_bs (o_M O))))) 0 0 59 [some (.ref 94), some (.int k), some (.int c), some (.int (nI u))] [] (lay (S, o_M' O (mW (o_M O) K W wc (z_best (o_M O)) (z_bc (o_M O)) (z_bs (o_M O))))) := by
      intro K W wc c hc
      subst hc
      exact lpw gdX6_cheapest 60 (awl (by rw [← nI_1]; rfl) (ih K W wc))
    have J49 : (∀ v, chF n m (mcv O) (mmf O) pr u = some v → lessF (dF pr u n) (dF pr v n) = true) → AW g mX6_cheapest (fun r h' => r = some (.int (cAns n m (mcv O) (mmf O) pr k)) ∧ ∃ K W wc, h' = lay (S, o_M' O (mW (o_M O) K W wc (z_best (o_M O)) (z_bc (o_M O)) (z_bs (o_M O))))) 0 0 49 [some (.ref 94), some (.int k), some (.int (sh (chF n m (mcv O) (mmf O) pr u))), some (.int (nI u))] [] (lay (S, o_M' O (mW (o_M O) K W wc (z_best (o_M O)) (z_bc (o_M O)) (z_bs (o_M O))))) := by
      intro hl
      refine lpw gdX6_cheapest 60 (ac_mono (am_findWay (g := g) (S := S) (O := O) (n := n) (u := u) hm h8 h6 hu) ?_)
      rintro r h' ⟨K2, W2, wc2, rfl, rfl, -⟩
      refine ⟨fun h => ?_, fun h => ?_⟩
      · have hh := (bi_e0 _).mp h
        have e : chF n m (mcv O) (mmf O) pr (u + 1) = chF n m (mcv O) (mmf O) pr u := by
          show (match chF n m (mcv O) (mmf O) pr u with | none => if hasU n m u (mcv O) (mmf O) then some u else none | some v => if lessF (dF pr u n) (dF pr v n) && hasU n m u (mcv O) (mmf O) then some u else some v) = _
          split
          · rename_i h0; rw [hh, h0]; rfl
          · rename_i v h0; rw [hh, h0, Bool.and_false]; rfl
        exact J59 _ _ _ _ (by rw [e])
      · rw [bi_e0, Bool.not_eq_false] at h
        have e : chF n m (mcv O) (mmf O) pr (u + 1) = some u := by
          show (match chF n m (mcv O) (mmf O) pr u with | none => if hasU n m u (mcv O) (mmf O) then some u else none | some v => if lessF (dF pr u n) (dF pr v n) && hasU n m u (mcv O) (mmf O) then some u else some v) = _
          split
          · rw [if_pos h]
          · rename_i v h0; rw [h, hl v h0]; rfl
        exact J59 _ _ _ _ (by rw [e]; rfl)
    refine lpw gdX6_cheapest 60 ⟨_, _, rfl, vlit (j := 13) (by decide) (by decide), ?_⟩
    refine ⟨fun h => ?_, fun _ => ?_⟩
    · have h' : (1 : Int32) <<< (z_now (o_M O) 13 &&& 31) ≤ nI u := h
      rw [hn, shlI n (by omega)] at h'
      exact absurd h' (nge hu (by omega))
    cases hc : chF n m (mcv O) (mmf O) pr u with
    | none =>
      rw [hc] at J49
      exact ⟨fun _ => J49 (fun v hv => by cases hv), fun h => absurd rfl h⟩
    | some v =>
      have hv := ch_in _ _ hc
      refine ⟨fun h => absurd h (nI_ne9 (by omega)), fun _ => ?_⟩
      refine ac_to (DE K W wc u hu64) (ac_to (DE K W wc v (by omega)) ⟨fun h => ?_, fun h => ?_⟩)
      · have hle : lessF (dF pr u n) (dF pr v n) = false := by
          unfold lessF
          rw [decide_eq_false_iff_not]
          exact Int32.not_lt.mpr h
        have e : chF n m (mcv O) (mmf O) pr (u + 1) = some v := by
          show (match chF n m (mcv O) (mmf O) pr u with | none => if hasU n m u (mcv O) (mmf O) then some u else none | some v => if lessF (dF pr u n) (dF pr v n) && hasU n m u (mcv O) (mmf O) then some u else some v) = _
          rw [hc]
          exact if_neg (by rw [hle]; simp)
        exact J59 _ _ _ _ (by rw [e])
      · rw [hc] at J49
        refine J49 (fun w hw => ?_)
        cases hw
        unfold lessF
        rw [decide_eq_true_eq]
        exact Int32.not_le.mp h
theorem pa_cheapest (k : Int32) : PrA g mX5_cheapest mX6_cheapest [.int k] := by
  rintro ⟨S, O⟩ hI
  have hI0 := hI
  obtain ⟨hR, hP, i3, i4, i5⟩ := hI
  have hR0 := hR
  obtain ⟨eo, m, n, hS, hw⟩ := hR
  have h8 := hw.2.1
  have h6 := hw.2.2.2.1
  have e64 := p64 h6
  by_cases hb : k < 0 ∨ 1 < k
  · have hin : (!decide (k < 0) && !decide (1 < k)) = false := by rcases hb with h | h <;> simp [h]
    have MB : AC g mX6_cheapest [.ref 94, .int k] (lay (S, O)) (fun r2 h2 => r2 = some (.int (-1)) ∧ ∃ X2 : St, h2 = lay X2 ∧ Inv X2) := by
      refine acw gdX6_cheapest 60 rfl (ac_to (am_in _ _ _ _) ⟨fun h => absurd (show bi (!decide (k < 0) && !decide (1 < k)) = 0 by rw [hin]; rfl) h, fun _ => ⟨rfl, (S, O), rfl, hI0⟩⟩)
    refine acw gdX5_cheapest 60 rfl ⟨fun _ => ⟨-1, (S, O), rfl, rfl, MB⟩, fun h1 => ⟨fun h2 => ?_, fun _ => ⟨-1, (S, O), rfl, rfl, MB⟩⟩⟩
    rcases hb with h | h
    · exact absurd h h1
    · exact absurd h (Int32.not_lt.mpr h2)
  have h1 : ¬ k < 0 := fun z => hb (Or.inl z)
  have h2 : ¬ 1 < k := fun z => hb (Or.inr z)
  have hp : ∀ s, s < n → ∃ q : Nat, q ≤ 9 ∧ fcr (z_now (o_M O)) (7 * s + 6) = nI q := fun s hs => hw.2.2.2.2.2.1 s hs 6 (by decide)
  have ML : ∀ Q2 : Pln, AC g mX6_cheapest [.ref 94, .int k] (lay (S, o_Q' O Q2)) (fun r2 h2 => r2 = some (.int (cAns n m (mcv O) (mmf O) (fun s => fcr (z_now (o_M O)) (7 * s + 6)) k)) ∧ ∃ X2 : St, h2 = lay X2 ∧ Inv X2) := fun Q2 => by
    refine ac_mono (am_cheapest (g := g) (S := S) (O := o_Q' O Q2) (n := n) k hw.1 h8 hw.2.2.1 h6 hp (by simp [h1, h2])) ?_
    rintro r h' ⟨rfl, K, W, wc, rfl⟩
    exact ⟨rfl, (S, o_M' (o_Q' O Q2) (mW (o_M O) K W wc (z_best (o_M O)) (z_bc (o_M O)) (z_bs (o_M O)))), rfl, ⟨hR0, hP, i3, i4, i5⟩⟩
  refine acw gdX5_cheapest 60 rfl ⟨fun h => absurd h h1, fun _ => ⟨fun _ => ?_, fun h => absurd (Int32.not_lt.mp h2) h⟩⟩
  refine ac_mono (ac_study (g := g) (S := S) (O := O) hS.1 h8 hS.2.1 h6 (hS.okp hw) (hS.okf hw)) ?_
  rintro r h' ⟨rfl, Q, hQ, hq, rfl⟩
  have hQ := hQ.md hS
  have hq' : ∀ s, s < n → p_pri Q s = fcr (z_now (o_M O)) (7 * s + 6) := fun s hs => (hq s hs).trans (hS.2.2.2.2.1 (7 * s + 6) (by omega))
  refine ac_to (ac_cheapestSet (g := g) (S := S) (O := o_Q' O Q) (pr := fun s => fcr (z_now (o_M O)) (7 * s + 6)) hQ h8 h6 hp hq') ?_
  have ML := ML Q
  unfold cAns at ML
  rw [show mcv O = cvL (fcr (z_now (o_M O))) from rfl, show mmf O = mfA (z_now (o_M O)) (fcr (z_now (o_M O))) (spr (z_now (o_M O))) from rfl] at ML
  cases hc : chF n m (cvL (fcr (z_now (o_M O)))) (mfA (z_now (o_M O)) (fcr (z_now (o_M O))) (spr (z_now (o_M O)))) (fun s => fcr (z_now (o_M O)) (7 * s + 6)) (2 ^ n) with
  | none =>
    rw [hc] at ML
    exact ⟨fun _ => ⟨-9, (S, o_Q' O Q), rfl, rfl, ML⟩, fun h => absurd rfl h⟩
  | some v =>
    have hv := ch_in _ _ hc
    rw [hc] at ML
    dsimp only at ML
    refine ⟨fun h => absurd h (nI_ne9 (by omega)), fun _ => ⟨fun h0 => ?_, fun h0 => ?_⟩⟩
    · rw [if_neg h0] at ML
      refine ac_to (ac_dear (g := g) (S := S) (O := o_Q' O Q) (u := v) (pr := fun s => fcr (z_now (o_M O)) (7 * s + 6)) h6 (by omega) hQ.2.1 hp hq') ?_
      exact ⟨(dF_n (u := v) (pr := fun s => fcr (z_now (o_M O)) (7 * s + 6)) h6 hp (Nat.le_refl n)).2, _, (S, o_Q' O Q), rfl, rfl, ML⟩
    · rw [if_pos h0] at ML
      exact ⟨_, (S, o_Q' O Q), rfl, rfl, ML⟩
/-! makes -/
set_option maxRecDepth 10000 in
theorem Lnow {f : Fn} : (lay (S, O)).set 95 (ia 64 f) = lay (S, o_M' O (z_now' (o_M O) f)) := by rfl
theorem am_mk68 {m : Nat} {c : Int32} {Post : Option Value → AH → Prop} (hm : z_now (o_M O) 4 = nI m) (h8 : m ≤ 8) (hK : Post (some (.int c)) (lay (S, o_M' O (z_now' (o_M O) (va_cpy (z_best (o_M O)) (z_now (o_M O)) 0 56 m))))) : AW g mX6_makes Post 0 0 68 [some (.ref 94), some (.int c), none, some (.int (nI 0))] [] (lay (S, O)) := by
  have h4 : ∀ k, va_cpy (z_best (o_M O)) (z_now (o_M O)) 0 56 k 4 = nI m := fun k => by rw [pk_cpy_out (by omega)]; exact hm
  have key := dn (n := m) (P := fun l => AW g mX6_makes Post 0 0 68 [some (.ref 94), some (.int c), none, some (.int (nI l))] [] (lay (S, o_M' O (z_now' (o_M O) (va_cpy (z_best (o_M O)) (z_now (o_M O)) 0 56 l))))) ?_ (fun l hl ih => ?_) 0 (Nat.zero_le _)
  · rw [cpy_0] at key
    exact key
  · refine lpw gdX6_makes 60 ⟨_, _, rfl, vlit (j := 4) (by decide) (by decide), ?_⟩
    exact ⟨fun _ => hK, fun h => absurd (show va_cpy (z_best (o_M O)) (z_now (o_M O)) 0 56 m 4 ≤ nI m by rw [h4]; exact nle (by omega) (by omega)) h⟩
  · have e56 : 56 + nI l = nI (56 + l) := by simp only [nlit, nI_add]
    have e1 := cpy_step (f := z_best (o_M O)) (t := z_now (o_M O)) (i := 0) (j := 56) (k := l)
    rw [Nat.zero_add] at e1
    rw [← e1] at ih
    have h4 := h4 l
    generalize va_cpy (z_best (o_M O)) (z_now (o_M O)) 0 56 l = F at ih h4 ⊢
    refine lpw gdX6_makes 60 ⟨_, _, rfl, vlit (j := 4) (by decide) (by decide), ?_⟩
    refine ⟨fun h => absurd (show F 4 ≤ nI l from h) (by rw [h4]; exact nge (by omega) (by omega)), fun _ => ?_⟩
    refine ⟨_, _, rfl, vlit (by omega) (by decide), ?_⟩
    refine ⟨_, _, rfl, vin e56 (by omega) (by decide), ?_⟩
    rw [vcl (x := nI l) rfl (by omega), vcl e56 (by omega)]
    exact aw_hp Lnow (awl (by rw [← nI_1]; rfl) ih)
theorem Rw.mke {r : Fn} {eo : Nat → Option Nat} {m n : Nat} {w : Nat → Nat} {bes B : Fn} (hS : ScC S r m n) (hw : WfR r eo m n) (hb : ∀ l, l < m → bes l = nI (w l)) (hB : ∀ l, l < m → B l = nI (w l)) (hwn : ∀ l, l < m → w l < n) : Rw (s_ed' S (va_cpy bes (s_ed S) 0 0 m)) (va_cpy B r 0 56 m) := by
  have h8 := hw.2.1
  have h6 := hw.2.2.2.1
  have hlo : ∀ i, i < 56 → va_cpy B r 0 56 m i = r i := fun i hi => pk_cpy_out (by omega)
  refine ⟨fun i => if i < m then some (w i) else eo i, m, n, ⟨hS.1, hS.2.1, fun i hi => ?_, fun i hi => ?_, fun i hi => ?_, fun i hi => ?_⟩, ⟨?_, h8, ?_, h6, fun i hi => ?_, fun s hs k hk => ?_, fun i hi => ?_, fun i hi => ?_⟩⟩
  · rw [hlo i (by omega)]; exact hS.2.2.1 i hi
  · rw [hlo _ (by omega)]; exact hS.2.2.2.1 i hi
  · rw [hlo _ (by omega)]; exact hS.2.2.2.2.1 i hi
  · show va_cpy bes (s_ed S) 0 0 m i = _
    by_cases h : i < m
    · rw [pk_cpy_in (by omega) (by omega), pk_cpy_in (by omega) (by omega), show 0 + (i - 0) = i by omega, show 0 + (56 + i - 56) = i by omega, hb i h, hB i h]
    · rw [pk_cpy_out (by omega), pk_cpy_out (by omega)]; exact hS.2.2.2.2.2 i hi
  · rw [hlo 4 (by decide)]; exact hw.1
  · rw [hlo 13 (by decide)]; exact hw.2.2.1
  · rw [hlo i (by omega)]; exact hw.2.2.2.2.1 i hi
  · show ∃ v : Nat, v ≤ 9 ∧ va_cpy B r 0 56 m (14 + (7 * s + k)) = nI v
    rw [hlo _ (by omega)]; exact hw.2.2.2.2.2.1 s hs k hk
  · dsimp only
    by_cases h : i < m
    · rw [pk_cpy_in (by omega) (by omega), show 0 + (56 + i - 56) = i by omega, if_pos h, hB i h]
      exact ⟨rfl, fun s z => by cases z; exact hwn i h⟩
    · rw [pk_cpy_out (by omega), if_neg h]; exact hw.2.2.2.2.2.2.1 i hi
  · have : ¬ i < m := by omega
    simp only [this, if_false]
    exact hw.2.2.2.2.2.2.2 i hi
theorem am_makes0 {m n : Nat} (hm : z_now (o_M O) 4 = nI m) (h8 : m ≤ 8) (hn : z_now (o_M O) 13 = nI n) (h6 : n ≤ 6) (hf : fbF n m (mcv O) (mmf O) (n + 1) 0 = none) : AC g mX6_makes [.ref 94] (lay (S, O)) (fun r h' => r = some (.int (-2)) ∧ ∃ K W wc B bc bs, h' = lay (S, o_M' O (mW (o_M O) K W wc B bc bs))) := by
  refine acw gdX6_makes 60 rfl ?_
  refine ac_mono (am_findBest (g := g) (S := S) (O := O) (K0 := z_cuts (o_M O)) (W0 := z_way (o_M O)) (wc0 := z_wc (o_M O)) (B0 := z_best (o_M O)) (bc0 := z_bc (o_M O)) (bs0 := z_bs (o_M O)) hm h8 hn h6) ?_
  rintro r h' ⟨K, W, wc, B, bc, bs, rfl, ⟨-, rfl⟩ | ⟨z, v, hf2, -, -⟩⟩
  · have J55 : AW g mX6_makes (fun r h' => r = some (.int (-2)) ∧ ∃ K W wc B bc bs, h' = lay (S, o_M' O (mW (o_M O) K W wc B bc bs))) 0 0 55 [some (.ref 94), some (.int 0), some (.int 0), some (.int 0)] [] (lay (S, o_M' O (mW (o_M O) K W wc B bc bs))) :=
      lpw gdX6_makes 60 ⟨fun h => absurd rfl h, fun _ => ⟨rfl, K, W, wc, B, bc, bs, rfl⟩⟩
    refine lpw gdX6_makes 60 ⟨_, _, rfl, vlit (j := 4) (by decide) (by decide), ?_⟩
    exact ⟨fun _ => J55, fun _ => ⟨fun _ => J55, fun h => absurd rfl h⟩⟩
  · rw [hf] at hf2
    cases hf2
theorem am_makes1 {m n z v : Nat} {eo : Nat → Option Nat} {G : Fn} {kn : Int32} (hm : z_now (o_M O) 4 = nI m) (h8 : m ≤ 8) (hn : z_now (o_M O) 13 = nI n) (h6 : n ≤ 6) (hE : ∀ l, l < 8 → z_now (o_M O) (56 + l) = sh (eo l) ∧ okO n (eo l)) (hwn : ∀ l, l < m → tw n m (mcv O) (mmf O) v l < n) (hf : fbF n m (mcv O) (mmf O) (n + 1) 0 = some (z, v)) (dM : ∀ (S' : Scn) (O' : Oth), z_now (o_M O') = z_now (o_M O) → z_past (o_M O') = z_past (o_M O) → z_deeds (o_M O') = z_deeds (o_M O) → ACe g mX6_note [.ref 94] (lay (S', O')) none (lay (S', o_M' O' (z_deeds' (z_past' (o_M O') G) kn)))) : AC g mX6_makes [.ref 94] (lay (S, O)) (fun r h' => ∃ K W wc B bc bs, (∀ l, l < m → B l = nI (tw n m (mcv O) (mmf O) v l)) ∧ ((cnt (fun l => !decide (eo l = some (tw n m (mcv O) (mmf O) v l))) m = 0 ∧ r = some (.int (-2)) ∧ h' = lay (S, o_M' O (mW (o_M O) K W wc B bc bs))) ∨ (cnt (fun l => !decide (eo l = some (tw n m (mcv O) (mmf O) v l))) m ≠ 0 ∧ r = some (.int (nI (cnt (fun l => !decide (eo l = some (tw n m (mcv O) (mmf O) v l))) m))) ∧ h' = lay (S, o_M' O (z_now' (z_deeds' (z_past' (mW (o_M O) K W wc B bc bs) G) kn) (va_cpy B (z_now (o_M O)) 0 56 m)))))) := by
  generalize hw : tw n m (mcv O) (mmf O) v = w at *
  generalize hp : (fun l => !decide (eo l = some (w l))) = p
  refine acw gdX6_makes 60 rfl ?_
  refine ac_mono (am_findBest (g := g) (S := S) (O := O) (K0 := z_cuts (o_M O)) (W0 := z_way (o_M O)) (wc0 := z_wc (o_M O)) (B0 := z_best (o_M O)) (bc0 := z_bc (o_M O)) (bs0 := z_bs (o_M O)) hm h8 hn h6) ?_
  rintro r h' ⟨K, W, wc, B, bc, bs, rfl, ⟨hf2, -⟩ | ⟨z2, v2, hf2, rfl, hB⟩⟩
  · rw [hf] at hf2
    cases hf2
  rw [hf] at hf2
  obtain ⟨rfl, rfl⟩ : z = z2 ∧ v = v2 := by cases hf2; exact ⟨rfl, rfl⟩
  have b3 : ∀ l, l < m → B l = nI (w l) := fun l hl => by rw [← hw]; exact hB.2.2 l hl
  generalize hPo : (fun (r : Option Value) (h' : AH) => ∃ K W wc B bc bs, (∀ l, l < m → B l = nI (w l)) ∧ ((cnt p m = 0 ∧ r = some (.int (-2)) ∧ h' = lay (S, o_M' O (mW (o_M O) K W wc B bc bs))) ∨ (cnt p m ≠ 0 ∧ r = some (.int (nI (cnt p m))) ∧ h' = lay (S, o_M' O (z_now' (z_deeds' (z_past' (mW (o_M O) K W wc B bc bs) G) kn) (va_cpy B (z_now (o_M O)) 0 56 m)))))) = Post
  have hcl := cnt_le p m
  have J55 : AW g mX6_makes Post 0 0 55 [some (.ref 94), some (.int (nI (cnt p m))), none, none] [] (lay (S, o_M' O (mW (o_M O) K W wc B bc bs))) := by
    refine lpw gdX6_makes 60 ⟨fun h => ?_, fun h => ?_⟩
    · have h' : cnt p m ≠ 0 := fun z => h (by rw [z]; rfl)
      refine ac_to (dM S (o_M' O (mW (o_M O) K W wc B bc bs)) rfl rfl rfl) ?_
      refine awf ?_ (am_mk68 (g := g) (S := S) (O := o_M' O (z_deeds' (z_past' (mW (o_M O) K W wc B bc bs) G) kn)) (m := m) (c := nI (cnt p m)) hm h8 ?_)
      · exact ⟨rfl, rfl, rfl, trivial⟩
      · rw [← hPo]
        exact ⟨K, W, wc, B, bc, bs, b3, Or.inr ⟨h', rfl, rfl⟩⟩
    · have h' : cnt p m = 0 := (neqI (b := 0) (by omega) (by omega)).mp h
      rw [← hPo]
      exact ⟨K, W, wc, B, bc, bs, b3, Or.inl ⟨h', rfl, rfl⟩⟩
  have key := dn (n := m) (P := fun l => AW g mX6_makes Post 0 0 9 [some (.ref 94), some (.int (nI (cnt p l))), some (.int 1), some (.int (nI l))] [] (lay (S, o_M' O (mW (o_M O) K W wc B bc bs)))) ?_ (fun l hl ih => ?_) 0 (Nat.zero_le _)
  · exact key
  · refine lpw gdX6_makes 60 ⟨_, _, rfl, vlit (j := 4) (by decide) (by decide), ?_⟩
    refine ⟨fun _ => awf ?_ J55, fun h => absurd (show z_now (o_M O) 4 ≤ nI m by rw [hm]; exact nle (by omega) (by omega)) h⟩
    exact ⟨rfl, rfl, trivial⟩
  · have e56 : 56 + nI l = nI (56 + l) := by simp only [nlit, nI_add]
    have J47 : ∀ x : Nat, cnt p l + x = cnt p (l + 1) → AW g mX6_makes Post 0 0 47 [some (.ref 94), some (.int (nI (cnt p l))), some (.int 1), some (.int (nI l))] [.int (nI x), .int (nI (cnt p l))] (lay (S, o_M' O (mW (o_M O) K W wc B bc bs))) := by
      intro x hx
      rw [← hx] at ih
      exact lpw gdX6_makes 60 (awl (by rw [← nI_1, ← nI_add]; rfl) ih)
    have e : sh (eo l) = nI (w l) ↔ eo l = some (w l) := by
      have hbl := hwn l hl
      cases h : eo l with
      | none => exact ⟨fun z => absurd z.symm (nI_ne9 (by omega)), fun z => by cases z⟩
      | some s =>
        have hs := (hE l (by omega)).2 s h
        exact ⟨fun z => congrArg some ((neqI (by omega) (by omega)).mp z), fun z => by cases z; rfl⟩
    refine lpw gdX6_makes 60 ⟨_, _, rfl, vlit (j := 4) (by decide) (by decide), ?_⟩
    refine ⟨fun h => absurd (show z_now (o_M O) 4 ≤ nI l from h) (by rw [hm]; exact nge (by omega) (by omega)), fun _ => ⟨fun h => absurd h n01, fun _ => ?_⟩⟩
    refine ⟨_, _, rfl, vin e56 (by omega) (by decide), ?_⟩
    refine ⟨_, _, rfl, vlit (by omega) (by decide), ?_⟩
    rw [vcl (x := nI l) rfl (by omega), vcl e56 (by omega), show z_now (o_M (S, o_M' O (mW (o_M O) K W wc B bc bs)).snd) (56 + l) = sh (eo l) from (hE l (by omega)).1, show z_best (o_M (S, o_M' O (mW (o_M O) K W wc B bc bs)).snd) l = nI (w l) from b3 l hl]
    refine ⟨fun h => J47 1 ?_, fun h => J47 0 ?_⟩
    · rw [e] at h
      rw [cnt_t (by rw [← hp]; simp [h])]
    · rw [e] at h
      rw [cnt_f (by rw [← hp]; simp [h]), Nat.add_zero]
theorem pa_makes : PrA g mX5_makes mX6_makes [] := by
  rintro ⟨S, O⟩ hI
  obtain ⟨hR, hP, i3, i4, i5⟩ := hI
  have hR0 := hR
  obtain ⟨eo, m, n, hS, hw⟩ := hR
  have h8 := hw.2.1
  have h6 := hw.2.2.2.1
  have hE := hw.2.2.2.2.2.2.1
  have hES : ∀ l, l < m → s_ed S l = sh (eo l) ∧ okO n (eo l) := fun l hl => ⟨(hS.2.2.2.2.2 l (by omega)).trans (hE l (by omega)).1, (hE l (by omega)).2⟩
  refine acw gdX5_makes 60 rfl ?_
  refine ac_mono (ac_study (g := g) (S := S) (O := O) hS.1 h8 hS.2.1 h6 (hS.okp hw) (hS.okf hw)) ?_
  rintro r h' ⟨rfl, Q, hQ, -, rfl⟩
  have hQ := hQ.md hS
  refine ac_mono (ac_findBest (g := g) (S := S) (O := o_Q' O Q) hQ h8 h6) ?_
  rintro r h' ⟨Q2, hQ2, rfl, ⟨hf, rfl⟩ | ⟨z, v, hf, rfl, hB⟩⟩
  · refine ⟨fun h => absurd rfl h, fun _ => ⟨-2, (S, o_Q' O Q2), rfl, rfl, ?_⟩⟩
    refine ac_mono (am_makes0 (g := g) (S := S) (O := o_Q' O Q2) (n := n) hw.1 h8 hw.2.2.1 h6 hf) ?_
    rintro r h' ⟨rfl, K, W, wc, B, bc, bs, rfl⟩
    exact ⟨rfl, (S, o_M' (o_Q' O Q2) (mW (o_M O) K W wc B bc bs)), rfl, ⟨hR0, hP, i3, i4, i5⟩⟩
  refine ⟨fun _ => ?_, fun h => absurd h n01⟩
  obtain ⟨b1, b2, b3⟩ := hB
  obtain ⟨-, hv, hh⟩ := fb_in _ _ _ _ hf
  obtain ⟨hv1, -, -⟩ := has_tw hv h6 h8 hh
  have hwn : ∀ l, l < m → tw n m (mcv O) (mmf O) v l < n := fun l hl => (hv1 l hl).2.1
  obtain ⟨PP, kn, nx, G, dC, dM, dI⟩ := deed (g := g) (S := S) (O := o_Q' O Q2) hR0 hP
  refine ac_to (ac_differsFrom (g := g) (S := S) (O := o_Q' O Q2) (k := n) (b := tw n m (mcv O) (mmf O) v) h6 hQ2.1 h8 (fun l hl => ⟨b3 l hl, hwn l hl⟩) hES) ?_
  have M1 := fun S' O' h1 h2 h3 h4 => am_makes1 (g := g) (S := S') (O := O') (m := m) (n := n) (z := z) (v := v) (eo := eo) (G := G) (kn := kn) h1 h8 h2 h6 h3 h4
  have hcl := cnt_le (fun l => !decide (eo l = some (tw n m (mcv O) (mmf O) v l))) m
  by_cases hc : cnt (fun l => !decide (eo l = some (tw n m (mcv O) (mmf O) v l))) m = 0
  · refine ⟨fun h => absurd (by rw [hc]; rfl) h, fun _ => ⟨-2, (S, o_Q' O Q2), rfl, rfl, ?_⟩⟩
    refine ac_mono (M1 S (o_Q' O Q2) hw.1 hw.2.2.1 hE hwn hf dM) ?_
    rintro r h' ⟨K, W, wc, B, bc, bs, hB, ⟨-, rfl, rfl⟩ | ⟨hc2, -, -⟩⟩
    · exact ⟨rfl, (S, o_M' (o_Q' O Q2) (mW (o_M O) K W wc B bc bs)), rfl, ⟨hR0, hP, i3, i4, i5⟩⟩
    · exact absurd hc hc2
  · refine ⟨fun _ => ?_, fun h => absurd ((neqI (b := 0) (by omega) (by omega)).mp h) hc⟩
    refine ac_to dC ?_
    refine ac_to (ac_giveBestTo (g := g) (S := S) (O := o_nx' (o_kn' (o_P' (o_Q' O Q2) PP) kn) nx) hQ2.1 h8) ?_
    refine ⟨_, (s_ed' S (va_cpy (p_bes Q2) (s_ed S) 0 0 m), o_nx' (o_kn' (o_P' (o_Q' O Q2) PP) kn) nx), rfl, rfl, ?_⟩
    refine ac_mono (M1 (s_ed' S (va_cpy (p_bes Q2) (s_ed S) 0 0 m)) (o_nx' (o_kn' (o_P' (o_Q' O Q2) PP) kn) nx) hw.1 hw.2.2.1 hE hwn hf dM) ?_
    rintro r h' ⟨K, W, wc, B, bc, bs, hB, ⟨hc2, -, -⟩ | ⟨-, rfl, rfl⟩⟩
    · exact absurd hc2 hc
    · refine ⟨rfl, (s_ed' S (va_cpy (p_bes Q2) (s_ed S) 0 0 m), o_M' (o_nx' (o_kn' (o_P' (o_Q' O Q2) PP) kn) nx) (z_now' (z_deeds' (z_past' (mW (o_M O) K W wc B bc bs) G) kn) (va_cpy B (z_now (o_M O)) 0 56 m))), rfl, ⟨?_, dI _ rfl rfl rfl rfl rfl, i3, i4, i5⟩⟩
      exact Rw.mke hS hw b3 hB hwn
end PC
end
section
/-! ===== the text's tokens ===== -/
section TKN
variable (c : Nat → Nat) (t : Nat)
def kdA (p : Nat) : Nat := if t ≤ p then 0 else if 97 ≤ c p ∧ c p ≤ 122 then 1 else if 48 ≤ c p ∧ c p ≤ 57 then 2 else if c p = 59 then 3 else 4
def skA : Nat → Nat → Nat
  | 0, p => p
  | k + 1, p => if p < t ∧ c p = 32 then skA k (p + 1) else p
def ruA (q : Nat) : Nat → Nat → Nat
  | 0, p => p
  | k + 1, p => if kdA c t p = q then ruA q k (p + 1) else p
def tS (p : Nat) : Nat := skA c t (t - p) p
def tK (p : Nat) : Nat := kdA c t (tS c t p)
def tE (p : Nat) : Nat := if tK c t p = 0 then tS c t p else if tK c t p = 1 ∨ tK c t p = 2 then ruA c t (tK c t p) (t - (tS c t p + 1)) (tS c t p + 1) else tS c t p + 1
/-- a word's letters, as a number -/
def wdA : Nat → Nat → Nat
  | _, 0 => 0
  | s, k + 1 => (c s - 96) + 32 * wdA (s + 1) k
def isW : List Nat → Nat → Nat → Bool
  | [], _, 0 => true
  | x :: w, s, k + 1 => decide (c s = x) && isW w (s + 1) k
  | _, _, _ => false
end TKN
def pkW : List Nat → Nat
  | [] => 0
  | x :: w => (x - 96) + 32 * pkW w
abbrev wPl : List Nat := [112, 108, 97, 121, 101, 114, 115]
abbrev wLi : List Nat := [108, 105, 110, 101, 115]
abbrev wSh : List Nat := [115, 104, 111, 116]
/-- the model's token -/
def tW (c : Nat → Nat) (t p : Nat) : Nat := if tK c t p = 0 then 1000 else if tK c t p = 1 then (if isW c wPl (tS c t p) (tE c t p - tS c t p) then 1003 else if isW c wLi (tS c t p) (tE c t p - tS c t p) then 1004 else if isW c wSh (tS c t p) (tE c t p - tS c t p) then 1005 else 1001) else if tK c t p = 2 then 1002 else if tK c t p = 3 then 59 else 1001
section TKM
variable {c : Nat → Nat} {t : Nat}
theorem kd_4 (p : Nat) : kdA c t p ≤ 4 := by
  unfold kdA
  split
  · omega
  · split
    · omega
    · split
      · omega
      · split <;> omega
theorem kd_0 {p : Nat} : kdA c t p = 0 ↔ t ≤ p := by
  unfold kdA
  constructor
  · intro h
    by_cases h0 : t ≤ p
    · exact h0
    · rw [if_neg h0] at h
      split at h
      · omega
      · split at h
        · omega
        · split at h <;> omega
  · intro h
    rw [if_pos h]
theorem kd_1 {p : Nat} : kdA c t p = 1 ↔ p < t ∧ 97 ≤ c p ∧ c p ≤ 122 := by
  unfold kdA
  constructor
  · intro h
    by_cases h0 : t ≤ p
    · rw [if_pos h0] at h; omega
    · rw [if_neg h0] at h
      split at h
      · omega
      · split at h
        · omega
        · split at h <;> omega
  · rintro ⟨h1, h2⟩
    rw [if_neg (by omega), if_pos h2]
theorem kd_2 {p : Nat} : kdA c t p = 2 ↔ p < t ∧ 48 ≤ c p ∧ c p ≤ 57 := by
  unfold kdA
  constructor
  · intro h
    by_cases h0 : t ≤ p
    · rw [if_pos h0] at h; omega
    · rw [if_neg h0] at h
      split at h
      · omega
      · split at h
        · omega
        · split at h <;> omega
  · rintro ⟨h1, h2⟩
    rw [if_neg (by omega), if_neg (by omega), if_pos h2]
theorem kd_3 {p : Nat} : kdA c t p = 3 ↔ p < t ∧ c p = 59 := by
  unfold kdA
  constructor
  · intro h
    by_cases h0 : t ≤ p
    · rw [if_pos h0] at h; omega
    · rw [if_neg h0] at h
      split at h
      · omega
      · split at h
        · omega
        · split at h <;> omega
  · rintro ⟨h1, h2⟩
    rw [if_neg (by omega), if_neg (by omega), if_neg (by omega), if_pos h2]
theorem sk_le : ∀ k p, p ≤ skA c t k p ∧ (p ≤ t → skA c t k p ≤ t) := by
  intro k
  induction k with
  | zero => intro p; exact ⟨Nat.le_refl p, fun h => h⟩
  | succ k ih =>
    intro p
    unfold skA
    split
    · rename_i h
      have := ih (p + 1)
      exact ⟨by omega, fun _ => this.2 (by omega)⟩
    · exact ⟨Nat.le_refl p, fun h => h⟩
theorem ru_le {q : Nat} (hq : q ≠ 0) : ∀ k p, p ≤ ruA c t q k p ∧ (p ≤ t → ruA c t q k p ≤ t) ∧ (∀ i, p ≤ i → i < ruA c t q k p → kdA c t i = q) := by
  intro k
  induction k with
  | zero => intro p; exact ⟨Nat.le_refl p, fun h => h, fun i h1 h2 => absurd h2 (by unfold ruA; omega)⟩
  | succ k ih =>
    intro p
    unfold ruA
    split
    · rename_i h
      have := ih (p + 1)
      have hpt : p < t := by
        apply Nat.lt_of_not_le
        intro z
        exact hq (h.symm.trans (kd_0.mpr z))
      refine ⟨by omega, fun _ => this.2.1 (by omega), fun i h1 h2 => ?_⟩
      by_cases hi : i = p
      · subst hi; exact h
      · exact this.2.2 i (by omega) h2
    · exact ⟨Nat.le_refl p, fun h => h, fun i h1 h2 => absurd h2 (by omega)⟩
theorem tS_le {p : Nat} (hp : p ≤ t) : tS c t p ≤ t := (sk_le _ _).2 hp
theorem tS_lt {p : Nat} (h : tK c t p ≠ 0) : tS c t p < t := by
  apply Nat.lt_of_not_le
  intro z
  exact h (kd_0.mpr z)
theorem tE_le {p : Nat} (hp : p ≤ t) : tE c t p ≤ t := by
  unfold tE
  split
  · exact tS_le hp
  · rename_i h
    have := tS_lt h
    split
    · exact (ru_le h _ _).2.1 (by omega)
    · omega
theorem tE_gt {p : Nat} (h : tK c t p ≠ 0) : tS c t p < tE c t p := by
  unfold tE
  rw [if_neg h]
  split
  · have := (ru_le (c := c) (t := t) h (t - (tS c t p + 1)) (tS c t p + 1)).1
    omega
  · omega
theorem tE_in {p i : Nat} (h : tK c t p = 1 ∨ tK c t p = 2) (h1 : tS c t p ≤ i) (h2 : i < tE c t p) : kdA c t i = tK c t p := by
  have h0 : tK c t p ≠ 0 := by omega
  unfold tE at h2
  rw [if_neg h0, if_pos h] at h2
  by_cases hi : i = tS c t p
  · subst hi; rfl
  · exact (ru_le h0 _ _).2.2 i (by omega) h2
theorem isW_iff : ∀ (w : List Nat) (s k : Nat), isW c w s k = true ↔ (k = w.length ∧ ∀ i, i < w.length → c (s + i) = w.getD i 0) := by
  intro w
  induction w with
  | nil =>
    intro s k
    cases k with
    | zero => exact ⟨fun _ => ⟨rfl, fun i hi => absurd hi (by simp)⟩, fun _ => rfl⟩
    | succ k => exact ⟨fun h => (by cases h), fun h => (by have := h.1; simp at this)⟩
  | cons x w ih =>
    intro s k
    cases k with
    | zero => exact ⟨fun h => (by cases h), fun h => (by have := h.1; simp at this)⟩
    | succ k =>
      unfold isW
      rw [Bool.and_eq_true, decide_eq_true_eq, ih]
      constructor
      · rintro ⟨h1, h2, h3⟩
        refine ⟨by rw [List.length_cons, h2], fun i hi => ?_⟩
        cases i with
        | zero => exact h1
        | succ i =>
          have := h3 i (by rw [List.length_cons] at hi; omega)
          rw [show s + (i + 1) = s + 1 + i by omega, this]
          rfl
      · rintro ⟨h1, h2⟩
        rw [List.length_cons] at h1
        refine ⟨h2 0 (by rw [List.length_cons]; omega), by omega, fun i hi => ?_⟩
        have := h2 (i + 1) (by rw [List.length_cons]; omega)
        rw [show s + (i + 1) = s + 1 + i by omega] at this
        rw [this]
        rfl
theorem wd_is : ∀ (w : List Nat), (∀ x ∈ w, 97 ≤ x ∧ x ≤ 122) → ∀ s k, (∀ i, i < k → 97 ≤ c (s + i) ∧ c (s + i) ≤ 122) → (wdA c s k = pkW w ↔ isW c w s k = true) := by
  intro w
  induction w with
  | nil =>
    intro _ s k hk
    cases k with
    | zero => exact ⟨fun _ => rfl, fun _ => rfl⟩
    | succ k =>
      have := hk 0 (by omega)
      rw [Nat.add_zero] at this
      refine ⟨fun h => ?_, fun h => by cases h⟩
      have h' : (c s - 96) + 32 * wdA c (s + 1) k = 0 := h
      omega
  | cons x w ih =>
    intro hw s k hk
    have hx := hw x (List.mem_cons_self ..)
    cases k with
    | zero =>
      refine ⟨fun h => ?_, fun h => by cases h⟩
      have h' : 0 = (x - 96) + 32 * pkW w := h
      omega
    | succ k =>
      have h0 := hk 0 (by omega)
      rw [Nat.add_zero] at h0
      have ih := ih (fun y hy => hw y (List.mem_cons_of_mem _ hy)) (s + 1) k (fun i hi => by
        have := hk (i + 1) (by omega)
        rw [show s + (i + 1) = s + 1 + i by omega] at this
        exact this)
      unfold isW
      rw [Bool.and_eq_true, decide_eq_true_eq, ← ih]
      show (c s - 96) + 32 * wdA c (s + 1) k = (x - 96) + 32 * pkW w ↔ _
      constructor
      · intro h; omega
      · rintro ⟨h1, h2⟩; rw [h1, h2]
theorem wd_lt : ∀ s k, (∀ i, i < k → 97 ≤ c (s + i) ∧ c (s + i) ≤ 122) → wdA c s k < 32 ^ k := by
  intro s k
  induction k generalizing s with
  | zero => intro _; exact Nat.one_pos
  | succ k ih =>
    intro hk
    have h0 := hk 0 (by omega)
    rw [Nat.add_zero] at h0
    have := ih (s + 1) (fun i hi => by
      have := hk (i + 1) (by omega)
      rw [show s + (i + 1) = s + 1 + i by omega] at this
      exact this)
    unfold wdA
    rw [Nat.pow_succ]
    omega
theorem skA_s {k p : Nat} (h1 : p < t) (h2 : c p = 32) : skA c t (k + 1) p = skA c t k (p + 1) := if_pos ⟨h1, h2⟩
theorem skA_n {k p : Nat} (h2 : c p ≠ 32) : skA c t (k + 1) p = p := if_neg (fun h => h2 h.2)
theorem ruA_s {k p q : Nat} (h : kdA c t p = q) : ruA c t q (k + 1) p = ruA c t q k (p + 1) := if_pos h
theorem ruA_n {k p q : Nat} (h : kdA c t p ≠ q) : ruA c t q (k + 1) p = p := if_neg h
end TKM
/-! texts that are written out -/
section STR
variable {g : Glob}
theorem aj_coder {k : Nat} (hk : k = 1000 ∨ k = 1001 ∨ k = 1002) (h : AH) : ACe g mJ0_coder_7d493 [.ref k] h (some (.int 0)) h := by
  refine acw gdJ0_coder_7d493 30 rfl ⟨fun h => absurd h (by decide), fun _ => ?_⟩
  rcases hk with rfl | rfl | rfl <;> exact ⟨rfl, rfl, rfl⟩
theorem aj_isLatin1 {k : Nat} (hk : k = 1000 ∨ k = 1001 ∨ k = 1002) (h : AH) : ACe g mJ0_isLatin1_aae02 [.ref k] h (some (.int 1)) h := by
  refine acw gdJ0_isLatin1_aae02 30 rfl ⟨fun h => absurd h (by decide), fun _ => ?_⟩
  rcases hk with rfl | rfl | rfl <;> exact ⟨fun h => absurd rfl h, fun _ => ⟨rfl, rfl, rfl⟩⟩
theorem aj_length0 (h : AH) : ACe g mJ0_length_8abf5 [.ref 1000] h (some (.int (nI 7))) h := by
  refine acw gdJ0_length_8abf5 30 rfl ?_
  exact ac_to (aj_coder (Or.inl rfl) h) ⟨rfl, rfl⟩
theorem aj_length1 (h : AH) : ACe g mJ0_length_8abf5 [.ref 1001] h (some (.int (nI 5))) h := by
  refine acw gdJ0_length_8abf5 30 rfl ?_
  exact ac_to (aj_coder (Or.inr (Or.inl rfl)) h) ⟨rfl, rfl⟩
theorem aj_length2 (h : AH) : ACe g mJ0_length_8abf5 [.ref 1002] h (some (.int (nI 4))) h := by
  refine acw gdJ0_length_8abf5 30 rfl ?_
  exact ac_to (aj_coder (Or.inr (Or.inr rfl)) h) ⟨rfl, rfl⟩
theorem aj_ckP {i n : Nat} {v : Value} (hv : v = .null ∨ v = .ref 1020) (hi : i < n) (hn : n ≤ 2000) (h : AH) : ACe g mJ3_checkIndex_8e157 [.int (nI i), .int (nI n), v] h (some (.int (nI i))) h := by
  rcases hv with rfl | rfl
  · refine acw gdJ3_checkIndex_8e157 30 rfl ⟨fun h => absurd h (nlt0 i (by omega)), fun _ => ⟨fun _ => ⟨rfl, rfl⟩, fun h => absurd ((nltI (by omega) (by omega)).mpr hi) h⟩⟩
  · refine acw gdJ3_checkIndex_8e157 30 rfl ⟨fun h => absurd h (nlt0 i (by omega)), fun _ => ⟨fun _ => ⟨rfl, rfl⟩, fun h => absurd ((nltI (by omega) (by omega)).mpr hi) h⟩⟩
theorem aj_ckS {i n : Nat} (hi : i < n) (hn : n ≤ 2000) (h : AH) : ACe g mJ0_checkIndex_df160 [.int (nI i), .int (nI n)] h none h := by
  refine acw gdJ0_checkIndex_df160 30 rfl ⟨?_, ?_⟩
  · exact ac_to (aj_ckP (Or.inl rfl) hi hn h) ⟨rfl, rfl⟩
  · exact ac_to (aj_ckP (Or.inr rfl) hi hn h) ⟨rfl, rfl⟩
theorem aj_lat0 {i : Nat} (hi : i < 7) (h : AH) : ACe g mJ1_charAt_3b067 [.ref 1010, .int (nI i)] h (some (.int (nI (wPl.getD i 0)))) h := by
  refine acw gdJ1_charAt_3b067 40 rfl (ac_to (aj_ckS (n := 7) hi (by decide) h) ?_)
  refine ⟨_, _, rfl, vlit hi (by decide), ?_⟩
  rw [vcl (x := nI i) rfl (by omega)]
  rcases (show i = 0 ∨ i = 1 ∨ i = 2 ∨ i = 3 ∨ i = 4 ∨ i = 5 ∨ i = 6 by omega) with rfl | rfl | rfl | rfl | rfl | rfl | rfl <;> exact ⟨rfl, rfl, rfl⟩
theorem aj_lat1 {i : Nat} (hi : i < 5) (h : AH) : ACe g mJ1_charAt_3b067 [.ref 1011, .int (nI i)] h (some (.int (nI (wLi.getD i 0)))) h := by
  refine acw gdJ1_charAt_3b067 40 rfl (ac_to (aj_ckS (n := 5) hi (by decide) h) ?_)
  refine ⟨_, _, rfl, vlit hi (by decide), ?_⟩
  rw [vcl (x := nI i) rfl (by omega)]
  rcases (show i = 0 ∨ i = 1 ∨ i = 2 ∨ i = 3 ∨ i = 4 by omega) with rfl | rfl | rfl | rfl | rfl <;> exact ⟨rfl, rfl, rfl⟩
theorem aj_lat2 {i : Nat} (hi : i < 4) (h : AH) : ACe g mJ1_charAt_3b067 [.ref 1012, .int (nI i)] h (some (.int (nI (wSh.getD i 0)))) h := by
  refine acw gdJ1_charAt_3b067 40 rfl (ac_to (aj_ckS (n := 4) hi (by decide) h) ?_)
  refine ⟨_, _, rfl, vlit hi (by decide), ?_⟩
  rw [vcl (x := nI i) rfl (by omega)]
  rcases (show i = 0 ∨ i = 1 ∨ i = 2 ∨ i = 3 by omega) with rfl | rfl | rfl | rfl <;> exact ⟨rfl, rfl, rfl⟩
theorem nr_ch : ∀ x : Nat, x < 256 → narrow .char (.int (nI x)) = .int (nI x) := by decide +kernel
theorem wPl_l {i : Nat} : wPl.getD i 0 < 256 := by
  rcases (show i = 0 ∨ i = 1 ∨ i = 2 ∨ i = 3 ∨ i = 4 ∨ i = 5 ∨ i = 6 ∨ 7 ≤ i by omega) with rfl | rfl | rfl | rfl | rfl | rfl | rfl | h <;> first | decide | (rw [List.getD_eq_getElem?_getD, List.getElem?_eq_none (by simpa using h)]; decide)
theorem wLi_l {i : Nat} : wLi.getD i 0 < 256 := by
  rcases (show i = 0 ∨ i = 1 ∨ i = 2 ∨ i = 3 ∨ i = 4 ∨ 5 ≤ i by omega) with rfl | rfl | rfl | rfl | rfl | h <;> first | decide | (rw [List.getD_eq_getElem?_getD, List.getElem?_eq_none (by simpa using h)]; decide)
theorem wSh_l {i : Nat} : wSh.getD i 0 < 256 := by
  rcases (show i = 0 ∨ i = 1 ∨ i = 2 ∨ i = 3 ∨ 4 ≤ i by omega) with rfl | rfl | rfl | rfl | h <;> first | decide | (rw [List.getD_eq_getElem?_getD, List.getElem?_eq_none (by simpa using h)]; decide)
theorem aj_at0 (i : Nat) (h : AH) (hi : i < 7) : ACe g mJ0_charAt_5068e [.ref 1000, .int (nI i)] h (some (.int (nI (wPl.getD i 0)))) h := by
  refine acw gdJ0_charAt_5068e 40 rfl (ac_to (aj_isLatin1 (Or.inl rfl) h) ⟨fun h => absurd h n01, fun _ => ?_⟩)
  exact ac_to (aj_lat0 hi h) ⟨nr_ch _ wPl_l, rfl, rfl⟩
theorem aj_at1 (i : Nat) (h : AH) (hi : i < 5) : ACe g mJ0_charAt_5068e [.ref 1001, .int (nI i)] h (some (.int (nI (wLi.getD i 0)))) h := by
  refine acw gdJ0_charAt_5068e 40 rfl (ac_to (aj_isLatin1 (Or.inr (Or.inl rfl)) h) ⟨fun h => absurd h n01, fun _ => ?_⟩)
  exact ac_to (aj_lat1 hi h) ⟨nr_ch _ wLi_l, rfl, rfl⟩
theorem aj_at2 (i : Nat) (h : AH) (hi : i < 4) : ACe g mJ0_charAt_5068e [.ref 1002, .int (nI i)] h (some (.int (nI (wSh.getD i 0)))) h := by
  refine acw gdJ0_charAt_5068e 40 rfl (ac_to (aj_isLatin1 (Or.inr (Or.inr rfl)) h) ⟨fun h => absurd h n01, fun _ => ?_⟩)
  exact ac_to (aj_lat2 hi h) ⟨nr_ch _ wSh_l, rfl, rfl⟩
end STR
end
section
/-! ===== the class's reader ===== -/
abbrev rdS (R : Rd) (k a b : Int32) : Rd := (r_t R, r_len R, k, a, b, r_pt R, r_lt R)
def TX (R : Rd) (c : Nat → Nat) (t : Nat) : Prop := r_len R = nI t ∧ t ≤ 160 ∧ ∀ i, i < t → r_t R i = nI (c i) ∧ c i ≤ 255
/-- the reader has gone on by a token -/
abbrev rdT (R : Rd) (c : Nat → Nat) (t p : Nat) : Rd := rdS R (nI (tK c t p)) (nI (tS c t p)) (nI (tE c t p))
/-- the next token is one figure from lo to hi -/
def fgA (c : Nat → Nat) (t lo hi p : Nat) : Bool := decide (tK c t p = 2) && decide (tE c t p = tS c t p + 1) && (decide (lo + 48 ≤ c (tS c t p)) && decide (c (tS c t p) ≤ hi + 48))
theorem po_hp {Post : Option Value → AH → Prop} {r : Option Value} {h h' : AH} (e : h = h') (k : Post r h') : Post r h := e ▸ k
section RD
variable {g : Glob} {S : Scn} {O : Oth} {c : Nat → Nat} {t : Nat}
set_option maxRecDepth 10000 in
theorem Lrd {l k a b p q : Int32} : (lay (S, O)).set 53 (.inr (2, [.ref 54, .int l, .int k, .int a, .int b, .int p, .int q])) = lay (S, o_R' O (r_t (o_R O), l, k, a, b, p, q)) := by rfl
theorem Lrd2 {x : va_E} {l k a b p q : Int32} : ((lay (S, O)).set 53 x).set 53 (.inr (2, [.ref 54, .int l, .int k, .int a, .int b, .int p, .int q])) = lay (S, o_R' O (r_t (o_R O), l, k, a, b, p, q)) := by rw [List.set_set]; exact Lrd
theorem ac_kindAt {p : Nat} (hT : TX (o_R O) c t) (hp : p ≤ 1000) : ACe g mX2_kindAt [.ref 53, .int (nI p)] (lay (S, O)) (some (.int (nI (kdA c t p)))) (lay (S, O)) := by
  obtain ⟨hl, h160, hc⟩ := hT
  have hl' : r_len (o_R (S, O).snd) = nI t := hl
  refine acw gdX2_kindAt 40 rfl ⟨fun h => ?_, fun h => ?_⟩
  · rw [hl', nltI (by omega) (by omega)] at h
    obtain ⟨hc1, hc2⟩ := hc p h
    refine ⟨_, _, rfl, vlit (by omega) (by decide), ?_⟩
    rw [vcl (x := nI p) rfl (by omega), show r_t (o_R (S, O).snd) p = _ from hc1]
    have e0 : ¬ t ≤ p := by omega
    refine ⟨fun h1 => ?_, fun h1 => ⟨fun h2 => ?_, fun h2 => ?_⟩⟩
    · have h1 := (nltI (b := 97) (by omega) (by omega)).mp h1
      refine ⟨fun h3 => ?_, fun h3 => ⟨fun h4 => ?_, fun h4 => ?_⟩⟩
      · have h3 := (nltI (b := 48) (by omega) (by omega)).mp h3
        refine ⟨fun h5 => ⟨?_, rfl⟩, fun h5 => ?_⟩
        · have h5 : ¬ c p = 59 := fun z => h5 (by rw [z]; rfl)
          unfold kdA; rw [if_neg e0, if_neg (by omega), if_neg (by omega), if_neg h5]; rfl
        · have h5 := (neqI (b := 59) (by omega) (by omega)).mp h5
          omega
      · have h3 : ¬ c p < 48 := fun z => h3 ((nltI (b := 48) (by omega) (by omega)).mpr z)
        have h4 := (nltI (a := 57) (by omega) (by omega)).mp h4
        refine ⟨fun h5 => ⟨?_, rfl⟩, fun h5 => ⟨?_, rfl⟩⟩
        · have h5 : ¬ c p = 59 := fun z => h5 (by rw [z]; rfl)
          unfold kdA; rw [if_neg e0, if_neg (by omega), if_neg (by omega), if_neg h5]; rfl
        · have h5 := (neqI (b := 59) (by omega) (by omega)).mp h5
          unfold kdA; rw [if_neg e0, if_neg (by omega), if_neg (by omega), if_pos h5]; rfl
      · have h3 : ¬ c p < 48 := fun z => h3 ((nltI (b := 48) (by omega) (by omega)).mpr z)
        have h4 : ¬ 57 < c p := fun z => h4 ((nltI (a := 57) (by omega) (by omega)).mpr z)
        refine ⟨?_, rfl⟩
        unfold kdA; rw [if_neg e0, if_neg (by omega), if_pos (by omega)]; rfl
    · have h1 : ¬ c p < 97 := fun z => h1 ((nltI (b := 97) (by omega) (by omega)).mpr z)
      have h2 := (nltI (a := 122) (by omega) (by omega)).mp h2
      refine ⟨fun h3 => ?_, fun h3 => ⟨fun h4 => ?_, fun h4 => ?_⟩⟩
      · have h3 := (nltI (b := 48) (by omega) (by omega)).mp h3
        omega
      · refine ⟨fun h5 => ⟨?_, rfl⟩, fun h5 => ?_⟩
        · unfold kdA; rw [if_neg e0, if_neg (by omega), if_neg (by omega), if_neg (by omega)]; rfl
        · have h5 := (neqI (b := 59) (by omega) (by omega)).mp h5
          omega
      · have h4 : ¬ 57 < c p := fun z => h4 ((nltI (a := 57) (by omega) (by omega)).mpr z)
        omega
    · have h1 : ¬ c p < 97 := fun z => h1 ((nltI (b := 97) (by omega) (by omega)).mpr z)
      have h2 : ¬ 122 < c p := fun z => h2 ((nltI (a := 122) (by omega) (by omega)).mpr z)
      refine ⟨?_, rfl⟩
      unfold kdA; rw [if_neg e0, if_pos (by omega)]; rfl
  · rw [hl', nltI (by omega) (by omega)] at h
    refine ⟨?_, rfl⟩
    rw [kd_0.mpr (by omega)]
    rfl
theorem ac_step {p : Nat} (hT : TX (o_R O) c t) (he : r_en (o_R O) = nI p) (hp : p ≤ t) : ACe g mX2_step [.ref 53] (lay (S, O)) none (lay (S, o_R' O (rdT (o_R O) c t p))) := by
  have hT0 := hT
  obtain ⟨hl, h160, hc⟩ := hT
  have hS := tS_le (c := c) hp
  have TX' : ∀ k a b : Int32, TX (o_R (o_R' O (rdS (o_R O) k a b))) c t := fun _ _ _ => hT0
  generalize hPo : (fun (r : Option Value) (h' : AH) => r = none ∧ h' = lay (S, o_R' O (rdT (o_R O) c t p))) = Post
  have hfin : ∀ (e : Nat), e = tE c t p → Post none (lay (S, o_R' O (rdS (o_R O) (nI (tK c t p)) (nI (tS c t p)) (nI e)))) := fun e h => by rw [h, ← hPo]; exact ⟨rfl, rfl⟩
  -- the token's end
  have L100 : tK c t p = 1 ∨ tK c t p = 2 → ∀ k e, t - e = k → e ≤ t → ruA c t (tK c t p) k e = tE c t p → AW g mX2_step Post 0 0 100 [some (.ref 53)] [] (lay (S, o_R' O (rdS (o_R O) (nI (tK c t p)) (nI (tS c t p)) (nI e)))) := by
    intro hq k
    induction k with
    | zero =>
      intro e h1 h2 h3
      have het : e = t := by omega
      refine lpw gdX2_step 60 ⟨fun _ => hfin e h3, fun h => absurd (show r_len (o_R O) ≤ nI e by rw [hl]; exact nle (by omega) (by omega)) h⟩
    | succ k ih =>
      intro e h1 h2 h3
      refine lpw gdX2_step 60 ⟨fun h => absurd (show r_len (o_R O) ≤ nI e from h) (by rw [hl]; exact nge (by omega) (by omega)), fun _ => ?_⟩
      refine ac_to (ac_kindAt (g := g) (S := S) (O := o_R' O (rdS (o_R O) (nI (tK c t p)) (nI (tS c t p)) (nI e))) (p := e) (TX' _ _ _) (by omega)) ?_
      have k4 := kd_4 (c := c) (t := t) e
      refine ⟨fun h => ?_, fun h => ?_⟩
      · have h' : kdA c t e ≠ tK c t p := fun z => h (by show nI (kdA c t e) = nI (tK c t p); rw [z])
        rw [ruA_n h'] at h3
        exact hfin e h3
      · have h' : kdA c t e = tK c t p := (neqI (by omega) (by omega)).mp (show nI (kdA c t e) = nI (tK c t p) from h)
        rw [ruA_s h'] at h3
        refine aw_hp Lrd ?_
        rw [show nI e + 1 = nI (e + 1) from nI_1 e]
        exact ih (e + 1) (by omega) (by omega) h3
  -- its start
  have L46 : ∀ (k0 b0 : Int32), AW g mX2_step Post 0 0 46 [some (.ref 53)] [] (lay (S, o_R' O (rdS (o_R O) k0 (nI (tS c t p)) b0))) := by
    intro k0 b0
    refine lpw gdX2_step 60 (ac_hp Lrd (ac_to (ac_kindAt (g := g) (S := S) (O := o_R' O (rdS (o_R O) k0 (nI (tS c t p)) (nI (tS c t p)))) (p := tS c t p) (TX' _ _ _) (by omega)) ?_))
    have k4 : tK c t p ≤ 4 := kd_4 (c := c) (t := t) _
    have ek : kdA c t (tS c t p) = tK c t p := rfl
    rw [ek]
    refine ⟨fun h => ?_, fun h => ?_⟩
    · have h0 : tK c t p ≠ 0 := fun z => h (by show nI (tK c t p) = 0; rw [z]; rfl)
      have hlt := tS_lt h0
      have hGo : tK c t p = 1 ∨ tK c t p = 2 → AW g mX2_step Post 0 0 100 [some (.ref 53)] [] (lay (S, o_R' O (rdS (o_R O) (nI (tK c t p)) (nI (tS c t p)) (nI (tS c t p + 1))))) := fun hq => by
        refine L100 hq _ (tS c t p + 1) rfl (by omega) ?_
        unfold tE
        rw [if_neg h0, if_pos hq]
      refine ⟨fun h1 => ?_, fun h1 => ⟨fun h2 => ?_, fun h2 => ?_⟩⟩
      · have h1 := (neqI (b := 1) (by omega) (by omega)).mp h1
        refine aw_hp Lrd2 ?_
        rw [show nI (tS c t p) + 1 = nI (tS c t p + 1) from nI_1 _]
        exact hGo (Or.inl h1)
      · have h1 : ¬ tK c t p = 1 := fun z => h1 (by show nI (tK c t p) = 1; rw [z]; rfl)
        have h2 : ¬ tK c t p = 2 := fun z => h2 (by show nI (tK c t p) = 2; rw [z]; rfl)
        show Post none _
        have := hfin (tS c t p + 1) (by unfold tE; rw [if_neg h0, if_neg (by omega)])
        rw [← nI_1] at this
        exact po_hp Lrd2 this
      · have h2 := (neqI (b := 2) (by omega) (by omega)).mp h2
        refine aw_hp Lrd2 ?_
        rw [show nI (tS c t p) + 1 = nI (tS c t p + 1) from nI_1 _]
        exact hGo (Or.inr h2)
    · have h0 : tK c t p = 0 := (neqI (b := 0) (by omega) (by omega)).mp h
      show Post none _
      have := hfin (tS c t p) (by unfold tE; rw [if_pos h0])
      exact po_hp Lrd this
  have L8 : ∀ (k0 b0 : Int32) k s, t - s = k → s ≤ t → skA c t k s = tS c t p → AW g mX2_step Post 0 0 8 [some (.ref 53)] [] (lay (S, o_R' O (rdS (o_R O) k0 (nI s) b0))) := by
    intro k0 b0 k
    induction k with
    | zero =>
      intro s h1 h2 h3
      have h3 : s = tS c t p := h3
      refine lpw gdX2_step 60 ⟨fun _ => ?_, fun h => absurd (show r_len (o_R O) ≤ nI s by rw [hl]; exact nle (by omega) (by omega)) h⟩
      rw [h3]
      exact L46 k0 b0
    | succ k ih =>
      intro s h1 h2 h3
      obtain ⟨hc1, hc2⟩ := hc s (by omega)
      refine lpw gdX2_step 60 ⟨fun h => absurd (show r_len (o_R O) ≤ nI s from h) (by rw [hl]; exact nge (by omega) (by omega)), fun _ => ?_⟩
      refine ⟨_, _, rfl, vlit (by omega) (by decide), ?_⟩
      rw [vcl (x := nI s) rfl (by omega), show r_t (o_R (S, o_R' O (rdS (o_R O) k0 (nI s) b0)).snd) s = _ from hc1]
      refine ⟨fun h => ?_, fun h => ?_⟩
      · have h' : c s ≠ 32 := fun z => h (by rw [z]; rfl)
        rw [skA_n h'] at h3
        rw [h3]
        exact L46 k0 b0
      · have h' : c s = 32 := (neqI (b := 32) (by omega) (by omega)).mp h
        rw [skA_s (by omega) h'] at h3
        refine aw_hp Lrd ?_
        rw [show nI s + 1 = nI (s + 1) from nI_1 s]
        exact ih (s + 1) (by omega) (by omega) h3
  rw [show ACe g mX2_step [.ref 53] (lay (S, O)) none (lay (S, o_R' O (rdT (o_R O) c t p))) = AC g mX2_step [.ref 53] (lay (S, O)) Post by rw [← hPo]; rfl]
  refine acw gdX2_step 60 rfl (aw_hp Lrd ?_)
  have := L8 (r_kd (o_R O)) (r_en (o_R O)) (t - p) p rfl hp rfl
  rw [← he] at this
  exact this
theorem ac_stepToStop {p : Nat} (hT : TX (o_R O) c t) (he : r_en (o_R O) = nI p) (hp : p ≤ t) : ACe g mX2_stepToStop [.ref 53] (lay (S, O)) (some (.int (bi (decide (tK c t p = 3))))) (lay (S, o_R' O (rdT (o_R O) c t p))) := by
  have k4 : tK c t p ≤ 4 := kd_4 (c := c) (t := t) _
  refine acw gdX2_stepToStop 40 rfl (ac_to (ac_step hT he hp) ⟨fun h => ?_, fun h => ?_⟩)
  · have h' : ¬ tK c t p = 3 := fun z => h (by show nI (tK c t p) = 3; rw [z]; rfl)
    exact ⟨rfl, congrArg (fun z => some (Value.int z)) (bi_f (by simp [h'])).symm, rfl⟩
  · have h' : tK c t p = 3 := (neqI (b := 3) (by omega) (by omega)).mp h
    exact ⟨rfl, congrArg (fun z => some (Value.int z)) (bi_t (by simp [h'])).symm, rfl⟩
theorem sub48 {x : Nat} (h : 48 ≤ x) : nI x - 48 = nI (x - 48) := pk_sub (a := x) (b := 48) h
theorem ac_stepToFigure {p lo hi : Nat} (hT : TX (o_R O) c t) (he : r_en (o_R O) = nI p) (hp : p ≤ t) (hlo : lo ≤ 9) (hhi : hi ≤ 9) : ACe g mX2_stepToFigure [.ref 53, .int (nI lo), .int (nI hi)] (lay (S, O)) (some (.int (bi (fgA c t lo hi p)))) (lay (S, o_R' O (rdT (o_R O) c t p))) := by
  have k4 : tK c t p ≤ 4 := kd_4 (c := c) (t := t) _
  have hS := tS_le (c := c) hp
  have hE := tE_le (c := c) hp
  have h160 := hT.2.1
  refine acw gdX2_stepToFigure 60 rfl (ac_to (ac_step hT he hp) ⟨fun h => ?_, fun h => ?_⟩)
  · have h' : ¬ tK c t p = 2 := fun z => h (by show nI (tK c t p) = 2; rw [z]; rfl)
    exact ⟨rfl, congrArg (fun z => some (Value.int z)) (bi_f (by simp [fgA, h'])).symm, rfl⟩
  have h2 : tK c t p = 2 := (neqI (b := 2) (by omega) (by omega)).mp h
  have hgt := tE_gt (c := c) (t := t) (p := p) (by omega)
  have hd := kd_2.mp h2
  obtain ⟨hc1, hc2⟩ := hT.2.2 (tS c t p) (by omega)
  have es : nI (tE c t p) - nI (tS c t p) = nI (tE c t p - tS c t p) := pk_sub (by omega)
  refine ⟨fun h => ?_, fun h => ?_⟩
  · have h3 : tE c t p - tS c t p = 1 := (neqI (b := 1) (by omega) (by omega)).mp (es.symm.trans h)
    refine ⟨_, _, rfl, vlit (by omega) (by decide), ?_⟩
    rw [vcl (x := nI (tS c t p)) rfl (by omega), show r_t (o_R (S, o_R' O (rdT (o_R O) c t p)).snd) (tS c t p) = _ from hc1]
    have e2 : fgA c t lo hi p = (decide (lo + 48 ≤ c (tS c t p)) && decide (c (tS c t p) ≤ hi + 48)) := by
      unfold fgA
      rw [show decide (tK c t p = 2) = true by simp [h2], show decide (tE c t p = tS c t p + 1) = true by simp; omega]
      rfl
    rw [e2]
    refine ⟨fun h => ?_, fun h => ⟨fun h4 => ?_, fun h4 => ?_⟩⟩
    all_goals rw [sub48 hd.2.1] at h
    all_goals try rw [sub48 hd.2.1] at h4
    · have h := (nltI (by omega) (by omega)).mp h
      exact ⟨rfl, congrArg (fun z => some (Value.int z)) (bi_f (by simp; omega)).symm, rfl⟩
    · have h4 := (nltI (by omega) (by omega)).mp h4
      exact ⟨rfl, congrArg (fun z => some (Value.int z)) (bi_f (by simp; omega)).symm, rfl⟩
    · have h : ¬ c (tS c t p) - 48 < lo := fun z => h ((nltI (by omega) (by omega)).mpr z)
      have h4 : ¬ hi < c (tS c t p) - 48 := fun z => h4 ((nltI (by omega) (by omega)).mpr z)
      exact ⟨rfl, congrArg (fun z => some (Value.int z)) (bi_t (by simp; omega)).symm, rfl⟩
  · have h3 : ¬ tE c t p - tS c t p = 1 := fun z => h (show nI (tE c t p) - nI (tS c t p) = 1 by rw [es, z]; rfl)
    exact ⟨rfl, congrArg (fun z => some (Value.int z)) (bi_f (by
      unfold fgA
      rw [show decide (tE c t p = tS c t p + 1) = false by simp; omega]
      simp)).symm, rfl⟩
/-- the three words -/
theorem ac_isWord {w : List Nat} {k s e q : Nat} (hk : k = 1000 ∨ k = 1001 ∨ k = 1002) (HL : ∀ h, ACe g mJ0_length_8abf5 [.ref k] h (some (.int (nI w.length))) h) (HC : ∀ i h, i < w.length → ACe g mJ0_charAt_5068e [.ref k, .int (nI i)] h (some (.int (nI (w.getD i 0)))) h) (hw : w.length ≤ 7) (hw2 : ∀ i, w.getD i 0 < 256) (hT : TX (o_R O) c t) (hs : r_st (o_R O) = nI s) (hen : r_en (o_R O) = nI e) (hkd : r_kd (o_R O) = nI q) (hq : q ≤ 4) (hse : s ≤ e) (het : e ≤ t) : ACe g mX2_isWord [.ref 53, .ref k] (lay (S, O)) (some (.int (bi (decide (q = 1) && isW c w s (e - s))))) (lay (S, O)) := by
  have h160 := hT.2.1
  have es : nI e - nI s = nI (e - s) := pk_sub (by omega)
  have hs' : r_st (o_R (S, O).snd) = nI s := hs
  have hen' : r_en (o_R (S, O).snd) = nI e := hen
  have hkd' : r_kd (o_R (S, O).snd) = nI q := hkd
  generalize hB : (decide (q = 1) && isW c w s (e - s)) = B
  rcases hk with rfl | rfl | rfl
  all_goals
    refine acw gdX2_isWord 60 rfl ⟨fun h => ?_, fun h => ?_⟩
    · have h' : ¬ q = 1 := fun z => h (by show r_kd (o_R O) = 1; rw [hkd, z]; rfl)
      exact ⟨rfl, congrArg (fun z => some (Value.int z)) (bi_f (by rw [← hB]; simp [h'])).symm, rfl⟩
    have h1 : q = 1 := (neqI (b := 1) (by omega) (by omega)).mp (hkd.symm.trans h)
    have hB' : isW c w s (e - s) = B := by rw [← hB, h1]; rfl
    refine ac_to (HL _) ⟨fun h => ?_, fun h => ?_⟩
    · rw [hen', hs', es, neqI (by omega) (by omega)] at h
      refine dn (n := w.length) (P := fun i => (∀ j, j < i → c (s + j) = w.getD j 0) → AW g mX2_isWord _ 0 0 28 [some (.ref 53), some (.ref _), some (.int (nI i))] [] (lay (S, O))) (fun hj => ?_) (fun i hi ih hj => ?_) 0 (Nat.zero_le _) (fun j hj => absurd hj (by omega))
      · refine lpw gdX2_isWord 60 (ac_to (HL _) ⟨fun _ => ?_, fun h => absurd (nle (by omega) (by omega)) h⟩)
        exact ⟨rfl, congrArg (fun z => some (Value.int z)) (bi_t (by rw [← hB']; exact (isW_iff w s (e - s)).mpr ⟨h, hj⟩)).symm, rfl⟩
      · obtain ⟨hc1, hc2⟩ := hT.2.2 (s + i) (by omega)
        have ei : r_st (o_R (S, O).snd) + nI i = nI (s + i) := by rw [hs', nI_add]
        have hw2' := hw2 i
        refine lpw gdX2_isWord 60 (ac_to (HL _) ⟨fun h => absurd h (nge (by omega) (by omega)), fun _ => ?_⟩)
        refine ⟨_, _, rfl, vin ei (by omega) (by decide), ?_⟩
        rw [vcl ei (by omega), show r_t (o_R (S, O).snd) (s + i) = _ from hc1]
        refine ac_to (HC i _ hi) ⟨fun h2 => ?_, fun h2 => ?_⟩
        · have h2 := (neqI (by omega) (by omega)).mp h2
          refine awl (by rw [← nI_1]; rfl) (ih (fun j hj' => ?_))
          by_cases hji : j = i
          · subst hji; exact h2
          · exact hj j (by omega)
        · have h2 : ¬ c (s + i) = w.getD i 0 := fun z => h2 (by rw [z])
          refine ⟨rfl, congrArg (fun z => some (Value.int z)) (bi_f ?_).symm, rfl⟩
          rw [← hB']
          cases hW : isW c w s (e - s) with
          | false => rfl
          | true => exact absurd (((isW_iff w s (e - s)).mp hW).2 i hi) h2
    · rw [hen', hs', es] at h
      have h' : ¬ e - s = w.length := fun z => h (by rw [z])
      refine ⟨rfl, congrArg (fun z => some (Value.int z)) (bi_f ?_).symm, rfl⟩
      rw [← hB']
      cases hW : isW c w s (e - s) with
      | false => rfl
      | true => exact absurd ((isW_iff w s (e - s)).mp hW).1 h'
end RD
end
