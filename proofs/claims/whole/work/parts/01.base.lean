-- ===== PART A: goes FIRST, ahead of the names: the tables' words, and 'selects' of the private methods out of them =====
/-- a private method of a class that the tables say can be made, by its rows of tables_1 -/
def lw_okq (q : MethodName × Nat) : Prop := (q.1.cls ≠ "java/lang/invoke/MethodHandle" ∧ q.1.cls ≠ "java/lang/invoke/VarHandle") ∧ Cond.instantiable q.1.cls q.2 ∈ tables_1 ∧ Cond.privateMethod q.1 ∈ tables_1 ∧ Cond.instanceMethod q.1 ∈ tables_1
theorem lw_p0 : lw_okq (⟨"SceneShotsModel", "beginRead", "()V"⟩, 23) := ⟨⟨by decide +kernel, by decide +kernel⟩, List.mem_of_getElem? (i := 613) (by decide +kernel), List.mem_of_getElem? (i := 619) (by decide +kernel), List.mem_of_getElem? (i := 620) (by decide +kernel)⟩
theorem lw_p1 : lw_okq (⟨"SceneShotsModel", "readText", "()I"⟩, 23) := ⟨⟨by decide +kernel, by decide +kernel⟩, List.mem_of_getElem? (i := 613) (by decide +kernel), List.mem_of_getElem? (i := 711) (by decide +kernel), List.mem_of_getElem? (i := 712) (by decide +kernel)⟩
theorem lw_p2 : lw_okq (⟨"SceneShotsModel", "next", "()V"⟩, 23) := ⟨⟨by decide +kernel, by decide +kernel⟩, List.mem_of_getElem? (i := 613) (by decide +kernel), List.mem_of_getElem? (i := 715) (by decide +kernel), List.mem_of_getElem? (i := 716) (by decide +kernel)⟩
theorem lw_p3 : lw_okq (⟨"SceneShotsModel", "isLetter", "(I)Z"⟩, 23) := ⟨⟨by decide +kernel, by decide +kernel⟩, List.mem_of_getElem? (i := 613) (by decide +kernel), List.mem_of_getElem? (i := 719) (by decide +kernel), List.mem_of_getElem? (i := 720) (by decide +kernel)⟩
theorem lw_p4 : lw_okq (⟨"SceneShotsModel", "wordFrom", "(II)J"⟩, 23) := ⟨⟨by decide +kernel, by decide +kernel⟩, List.mem_of_getElem? (i := 613) (by decide +kernel), List.mem_of_getElem? (i := 723) (by decide +kernel), List.mem_of_getElem? (i := 724) (by decide +kernel)⟩
theorem lw_p5 : lw_okq (⟨"SceneShotsModel", "isFigure", "(I)Z"⟩, 23) := ⟨⟨by decide +kernel, by decide +kernel⟩, List.mem_of_getElem? (i := 613) (by decide +kernel), List.mem_of_getElem? (i := 732) (by decide +kernel), List.mem_of_getElem? (i := 733) (by decide +kernel)⟩
theorem lw_p6 : lw_okq (⟨"SceneShotsModel", "readPlayers", "()Z"⟩, 23) := ⟨⟨by decide +kernel, by decide +kernel⟩, List.mem_of_getElem? (i := 613) (by decide +kernel), List.mem_of_getElem? (i := 736) (by decide +kernel), List.mem_of_getElem? (i := 737) (by decide +kernel)⟩
theorem lw_p7 : lw_okq (⟨"SceneShotsModel", "figure", "(II)I"⟩, 23) := ⟨⟨by decide +kernel, by decide +kernel⟩, List.mem_of_getElem? (i := 613) (by decide +kernel), List.mem_of_getElem? (i := 740) (by decide +kernel), List.mem_of_getElem? (i := 741) (by decide +kernel)⟩
theorem lw_p8 : lw_okq (⟨"SceneShotsModel", "isEnded", "()Z"⟩, 23) := ⟨⟨by decide +kernel, by decide +kernel⟩, List.mem_of_getElem? (i := 613) (by decide +kernel), List.mem_of_getElem? (i := 744) (by decide +kernel), List.mem_of_getElem? (i := 745) (by decide +kernel)⟩
theorem lw_p9 : lw_okq (⟨"SceneShotsModel", "readLines", "()Z"⟩, 23) := ⟨⟨by decide +kernel, by decide +kernel⟩, List.mem_of_getElem? (i := 613) (by decide +kernel), List.mem_of_getElem? (i := 748) (by decide +kernel), List.mem_of_getElem? (i := 749) (by decide +kernel)⟩
theorem lw_p10 : lw_okq (⟨"SceneShotsModel", "readShot", "()Z"⟩, 23) := ⟨⟨by decide +kernel, by decide +kernel⟩, List.mem_of_getElem? (i := 613) (by decide +kernel), List.mem_of_getElem? (i := 752) (by decide +kernel), List.mem_of_getElem? (i := 753) (by decide +kernel)⟩
theorem lw_p11 : lw_okq (⟨"SceneShotsModel", "note", "()V"⟩, 23) := ⟨⟨by decide +kernel, by decide +kernel⟩, List.mem_of_getElem? (i := 613) (by decide +kernel), List.mem_of_getElem? (i := 756) (by decide +kernel), List.mem_of_getElem? (i := 757) (by decide +kernel)⟩
theorem lw_p12 : lw_okq (⟨"SceneShotsModel", "isLine", "(I)Z"⟩, 23) := ⟨⟨by decide +kernel, by decide +kernel⟩, List.mem_of_getElem? (i := 613) (by decide +kernel), List.mem_of_getElem? (i := 764) (by decide +kernel), List.mem_of_getElem? (i := 765) (by decide +kernel)⟩
theorem lw_p13 : lw_okq (⟨"SceneShotsModel", "isShot", "(I)Z"⟩, 23) := ⟨⟨by decide +kernel, by decide +kernel⟩, List.mem_of_getElem? (i := 613) (by decide +kernel), List.mem_of_getElem? (i := 768) (by decide +kernel), List.mem_of_getElem? (i := 769) (by decide +kernel)⟩
theorem lw_p14 : lw_okq (⟨"SceneShotsModel", "covers", "(II)Z"⟩, 23) := ⟨⟨by decide +kernel, by decide +kernel⟩, List.mem_of_getElem? (i := 613) (by decide +kernel), List.mem_of_getElem? (i := 772) (by decide +kernel), List.mem_of_getElem? (i := 773) (by decide +kernel)⟩
theorem lw_p15 : lw_okq (⟨"SceneShotsModel", "of", "(II)I"⟩, 23) := ⟨⟨by decide +kernel, by decide +kernel⟩, List.mem_of_getElem? (i := 613) (by decide +kernel), List.mem_of_getElem? (i := 776) (by decide +kernel), List.mem_of_getElem? (i := 777) (by decide +kernel)⟩
def lw_privs_1 : List (MethodName × Nat) := [(⟨"SceneShotsModel", "beginRead", "()V"⟩, 23), (⟨"SceneShotsModel", "readText", "()I"⟩, 23), (⟨"SceneShotsModel", "next", "()V"⟩, 23), (⟨"SceneShotsModel", "isLetter", "(I)Z"⟩, 23), (⟨"SceneShotsModel", "wordFrom", "(II)J"⟩, 23), (⟨"SceneShotsModel", "isFigure", "(I)Z"⟩, 23), (⟨"SceneShotsModel", "readPlayers", "()Z"⟩, 23), (⟨"SceneShotsModel", "figure", "(II)I"⟩, 23), (⟨"SceneShotsModel", "isEnded", "()Z"⟩, 23), (⟨"SceneShotsModel", "readLines", "()Z"⟩, 23), (⟨"SceneShotsModel", "readShot", "()Z"⟩, 23), (⟨"SceneShotsModel", "note", "()V"⟩, 23), (⟨"SceneShotsModel", "isLine", "(I)Z"⟩, 23), (⟨"SceneShotsModel", "isShot", "(I)Z"⟩, 23), (⟨"SceneShotsModel", "covers", "(II)Z"⟩, 23), (⟨"SceneShotsModel", "of", "(II)I"⟩, 23)]
theorem lw_r1 : ∀ q ∈ lw_privs_1, lw_okq q := List.forall_mem_cons.mpr ⟨lw_p0, List.forall_mem_cons.mpr ⟨lw_p1, List.forall_mem_cons.mpr ⟨lw_p2, List.forall_mem_cons.mpr ⟨lw_p3, List.forall_mem_cons.mpr ⟨lw_p4, List.forall_mem_cons.mpr ⟨lw_p5, List.forall_mem_cons.mpr ⟨lw_p6, List.forall_mem_cons.mpr ⟨lw_p7, List.forall_mem_cons.mpr ⟨lw_p8, List.forall_mem_cons.mpr ⟨lw_p9, List.forall_mem_cons.mpr ⟨lw_p10, List.forall_mem_cons.mpr ⟨lw_p11, List.forall_mem_cons.mpr ⟨lw_p12, List.forall_mem_cons.mpr ⟨lw_p13, List.forall_mem_cons.mpr ⟨lw_p14, List.forall_mem_cons.mpr ⟨lw_p15, fun _ h => absurd h List.not_mem_nil⟩⟩⟩⟩⟩⟩⟩⟩⟩⟩⟩⟩⟩⟩⟩⟩
theorem lw_p16 : lw_okq (⟨"SceneShotsModel", "findBest", "()Z"⟩, 23) := ⟨⟨by decide +kernel, by decide +kernel⟩, List.mem_of_getElem? (i := 613) (by decide +kernel), List.mem_of_getElem? (i := 792) (by decide +kernel), List.mem_of_getElem? (i := 793) (by decide +kernel)⟩
theorem lw_p17 : lw_okq (⟨"SceneShotsModel", "findWay", "(I)Z"⟩, 23) := ⟨⟨by decide +kernel, by decide +kernel⟩, List.mem_of_getElem? (i := 613) (by decide +kernel), List.mem_of_getElem? (i := 799) (by decide +kernel), List.mem_of_getElem? (i := 800) (by decide +kernel)⟩
theorem lw_p18 : lw_okq (⟨"SceneShotsModel", "findCuts", "(I)V"⟩, 23) := ⟨⟨by decide +kernel, by decide +kernel⟩, List.mem_of_getElem? (i := 613) (by decide +kernel), List.mem_of_getElem? (i := 803) (by decide +kernel), List.mem_of_getElem? (i := 804) (by decide +kernel)⟩
theorem lw_p19 : lw_okq (⟨"SceneShotsModel", "mayFollow", "(III)Z"⟩, 23) := ⟨⟨by decide +kernel, by decide +kernel⟩, List.mem_of_getElem? (i := 613) (by decide +kernel), List.mem_of_getElem? (i := 807) (by decide +kernel), List.mem_of_getElem? (i := 808) (by decide +kernel)⟩
theorem lw_p20 : lw_okq (⟨"SceneShotsModel", "canCut", "(II)Z"⟩, 23) := ⟨⟨by decide +kernel, by decide +kernel⟩, List.mem_of_getElem? (i := 613) (by decide +kernel), List.mem_of_getElem? (i := 811) (by decide +kernel), List.mem_of_getElem? (i := 812) (by decide +kernel)⟩
theorem lw_p21 : lw_okq (⟨"SceneShotsModel", "areNear", "(II)Z"⟩, 23) := ⟨⟨by decide +kernel, by decide +kernel⟩, List.mem_of_getElem? (i := 613) (by decide +kernel), List.mem_of_getElem? (i := 815) (by decide +kernel), List.mem_of_getElem? (i := 816) (by decide +kernel)⟩
theorem lw_p22 : lw_okq (⟨"SceneShotsModel", "wayOf", "(II)I"⟩, 23) := ⟨⟨by decide +kernel, by decide +kernel⟩, List.mem_of_getElem? (i := 613) (by decide +kernel), List.mem_of_getElem? (i := 819) (by decide +kernel), List.mem_of_getElem? (i := 820) (by decide +kernel)⟩
theorem lw_p23 : lw_okq (⟨"SceneShotsModel", "sideOf", "(I)I"⟩, 23) := ⟨⟨by decide +kernel, by decide +kernel⟩, List.mem_of_getElem? (i := 613) (by decide +kernel), List.mem_of_getElem? (i := 823) (by decide +kernel), List.mem_of_getElem? (i := 824) (by decide +kernel)⟩
theorem lw_p24 : lw_okq (⟨"SceneShotsModel", "isReaction", "(II)Z"⟩, 23) := ⟨⟨by decide +kernel, by decide +kernel⟩, List.mem_of_getElem? (i := 613) (by decide +kernel), List.mem_of_getElem? (i := 827) (by decide +kernel), List.mem_of_getElem? (i := 828) (by decide +kernel)⟩
theorem lw_p25 : lw_okq (⟨"SceneShotsModel", "isBefore", "()Z"⟩, 23) := ⟨⟨by decide +kernel, by decide +kernel⟩, List.mem_of_getElem? (i := 613) (by decide +kernel), List.mem_of_getElem? (i := 831) (by decide +kernel), List.mem_of_getElem? (i := 832) (by decide +kernel)⟩
theorem lw_p26 : lw_okq (⟨"SceneShotsModel", "coversOf", "(I)I"⟩, 23) := ⟨⟨by decide +kernel, by decide +kernel⟩, List.mem_of_getElem? (i := 613) (by decide +kernel), List.mem_of_getElem? (i := 843) (by decide +kernel), List.mem_of_getElem? (i := 844) (by decide +kernel)⟩
theorem lw_p27 : lw_okq (⟨"SceneShotsModel", "cutsOf", "(I)I"⟩, 23) := ⟨⟨by decide +kernel, by decide +kernel⟩, List.mem_of_getElem? (i := 613) (by decide +kernel), List.mem_of_getElem? (i := 852) (by decide +kernel), List.mem_of_getElem? (i := 853) (by decide +kernel)⟩
theorem lw_p28 : lw_okq (⟨"SceneShotsModel", "dearOf", "(I)F"⟩, 23) := ⟨⟨by decide +kernel, by decide +kernel⟩, List.mem_of_getElem? (i := 613) (by decide +kernel), List.mem_of_getElem? (i := 872) (by decide +kernel), List.mem_of_getElem? (i := 873) (by decide +kernel)⟩
theorem lw_p29 : lw_okq (⟨"SceneShotsModel", "isSo", "(I)Z"⟩, 23) := ⟨⟨by decide +kernel, by decide +kernel⟩, List.mem_of_getElem? (i := 613) (by decide +kernel), List.mem_of_getElem? (i := 894) (by decide +kernel), List.mem_of_getElem? (i := 895) (by decide +kernel)⟩
def lw_privs_2 : List (MethodName × Nat) := [(⟨"SceneShotsModel", "findBest", "()Z"⟩, 23), (⟨"SceneShotsModel", "findWay", "(I)Z"⟩, 23), (⟨"SceneShotsModel", "findCuts", "(I)V"⟩, 23), (⟨"SceneShotsModel", "mayFollow", "(III)Z"⟩, 23), (⟨"SceneShotsModel", "canCut", "(II)Z"⟩, 23), (⟨"SceneShotsModel", "areNear", "(II)Z"⟩, 23), (⟨"SceneShotsModel", "wayOf", "(II)I"⟩, 23), (⟨"SceneShotsModel", "sideOf", "(I)I"⟩, 23), (⟨"SceneShotsModel", "isReaction", "(II)Z"⟩, 23), (⟨"SceneShotsModel", "isBefore", "()Z"⟩, 23), (⟨"SceneShotsModel", "coversOf", "(I)I"⟩, 23), (⟨"SceneShotsModel", "cutsOf", "(I)I"⟩, 23), (⟨"SceneShotsModel", "dearOf", "(I)F"⟩, 23), (⟨"SceneShotsModel", "isSo", "(I)Z"⟩, 23)]
theorem lw_r2 : ∀ q ∈ lw_privs_2, lw_okq q := List.forall_mem_cons.mpr ⟨lw_p16, List.forall_mem_cons.mpr ⟨lw_p17, List.forall_mem_cons.mpr ⟨lw_p18, List.forall_mem_cons.mpr ⟨lw_p19, List.forall_mem_cons.mpr ⟨lw_p20, List.forall_mem_cons.mpr ⟨lw_p21, List.forall_mem_cons.mpr ⟨lw_p22, List.forall_mem_cons.mpr ⟨lw_p23, List.forall_mem_cons.mpr ⟨lw_p24, List.forall_mem_cons.mpr ⟨lw_p25, List.forall_mem_cons.mpr ⟨lw_p26, List.forall_mem_cons.mpr ⟨lw_p27, List.forall_mem_cons.mpr ⟨lw_p28, List.forall_mem_cons.mpr ⟨lw_p29, fun _ h => absurd h List.not_mem_nil⟩⟩⟩⟩⟩⟩⟩⟩⟩⟩⟩⟩⟩⟩
def lw_privs : List (MethodName × Nat) := lw_privs_1 ++ (lw_privs_2)
def lw_tbl : List Cond := k2_sels lw_privs ++ tables_1
theorem lw_privs_ok : ∀ q ∈ lw_privs, lw_okq q := by
  show ∀ q ∈ lw_privs_1 ++ (lw_privs_2), lw_okq q
  exact List.forall_mem_append.mpr ⟨lw_r1, lw_r2⟩
/-- the streams that the claim lets the run draw from -/
abbrev lw_cs : List Choice := [Jvm.Choice.named "NaN.bits"]
theorem lw_bits : nanBits ∈ lw_cs := by first | decide | exact List.mem_cons_self | simp [lw_cs, nanBits]

/-! ===== BEGIN new T[n][m]: the outer array a place, the inner ones among the pooled ===== -/
/-- f, but v at every address of l -/
def vr_up {α : Type} (f : Nat → α) (l : List Nat) (v : α) : Nat → α := fun a => if a ∈ l then v else f a
theorem vr_up_in {α : Type} {f : Nat → α} {l : List Nat} {v : α} {a : Nat} (h : a ∈ l) : vr_up f l v a = v := if_pos h
theorem vr_up_ne {α : Type} {f : Nat → α} {l : List Nat} {v : α} {a : Nat} (h : a ∉ l) : vr_up f l v a = f a := if_neg h
theorem vr_rows {L l : List Nat} {f : Nat → va_E} {e : va_E} (h : ∀ a, a ∈ l → a ∉ L) : va_pl L f ++ l.map (fun a => (a, e)) = va_pl (L ++ l) (vr_up f l e) := by
  unfold va_pl
  rw [List.map_append]
  congr 1
  · apply List.map_congr_left
    intro a ha
    rw [vr_up_ne (fun q => h a q ha)]
  · apply List.map_congr_left
    intro a ha
    rw [vr_up_in ha]
theorem vr_lay {X rows : va_W} {x : Nat × va_E} {pl : va_W} {D : va_G} {cl : List vw_C} {H : Heap} (hP : va_P D cl (((X ++ pl) ++ [x]) ++ rows) H) : va_P D cl ((X ++ [x]) ++ (pl ++ rows)) H := by
  rw [List.append_assoc (X ++ pl)] at hP
  have h := va_P.swap hP
  rw [← List.append_assoc X] at h
  have h2 := va_P.swap h
  rw [List.append_assoc (X ++ [x])] at h2
  exact h2
theorem vr_layD {X rows : va_W} {x : Nat × va_E} {pl : va_W} {A : Nat → Prop} (hD : va_D A (((X ++ pl) ++ [x]) ++ rows)) : va_D A ((X ++ [x]) ++ (pl ++ rows)) := by
  rw [List.append_assoc (X ++ pl)] at hD
  have h := va_D.swap hD
  rw [← List.append_assoc X] at h
  have h2 := va_D.swap h
  rw [List.append_assoc (X ++ [x])] at h2
  exact h2
theorem vr_outer (c : ClassId) (N h0 : Nat) : ∀ i : Nat, Jvm.Free.Multi.outerC c N h0 i = arrV c N (fun j => va_rf (if j < i then some (h0 + 1 + j) else none))
  | 0 => by
    show ({ cls := c, slots := Array.replicate N .null, vm := .none } : Cell) = _
    rw [arrV_new]
    refine congrArg (arrV c N) (funext fun j => ?_)
    simp [va_rf]
  | i + 1 => by
    show (Jvm.Free.Multi.outerC c N h0 i).setSlot i (.ref (h0 + 1 + i)) = _
    rw [vr_outer c N h0 i, arrV_store]
    refine congrArg (arrV c N) (funext fun j => ?_)
    by_cases e : j = i
    · subst e
      simp [updV, va_rf]
    · by_cases h : j < i
      · simp [updV, e, h, Nat.lt_succ_of_lt h]
      · simp [updV, e, h, show ¬ j < i + 1 by omega]
section VGM
variable {p : Program} {l : Launch} {e : Env} {R : Room} {s : State} {m : MethodId} {args : Array Value} {below : List Frame} {meth : Method} {c : Code} {H : Heap} {locs : List Loc} {cells slots : Nat} {Q : State → Prop}
variable {cc : ByteArray} {pc : Nat} {ls : Array Slot} {rest : List Value} {D : va_G} {cl : List vw_C} {A : Nat → Prop} {a : Nat} {tys : List (ClassId × FieldType)} {ws : va_W} {H0 : Heap}
theorem va_mna {X : va_W} {L : List Nat} {f : Nat → va_E} {cc : ByteArray} (hexec : p.tables.exec = Jvm.exec) (hb : c.code = cc) {own : String} {index : Nat} {ty : FieldType} {cy : ClassId} (hown : s.vm.findClass own = some m.cls) (hclink : (Cond.classLink own index ("[" ++ (FieldType.array ty).toString)).before args s = true) (hover : (Cond.arrayOver (.array ty)).before args s = true) (harr : (Cond.arrayClass ty).before args s = true) (hcy : s.vm.findClass (FieldType.array ty).toString = some cy)
    (hK : va_K D cl tys s) (hP : va_P D cl (X ++ va_pl L f) H) (hD : va_D A (X ++ va_pl L f)) (hS : va_S A H0 H locs) (hA : ∀ q, H0.size ≤ q → A q) {n k : Int32} {N' K' : Nat} {z : vp_A} (hn : ¬ n < 0) (hk : ¬ k < 0) (hN : n.toNatClampNeg = N') (hM : k.toNatClampNeg = K')
    (hb1 : N' * 4 ≤ 536870912) (hb2 : K' * componentBytes ty ≤ 536870912) (hb3 : K' ≤ 536870912) (hdf : fits ty (defaultValue ty) = true) (hdd : (defaultValue ty).isDefault = true) (hcells : cells + (1 + N') ≤ R.cells) (hslots : slots + (N' + N' * K') ≤ R.slots) (hz : ∀ c : ClassId, Jvm.Free.Multi.innerC c K' (defaultValue ty) = vp_cell c z) (hdg : decode cc pc = .ok (.multianewarray index 2, 4))
    (kk : ∀ (q : Nat) (r : Nat → Nat) (cA : ClassId) (H1 : Heap), (∀ i j : Nat, i < N' → j < N' → r i = r j → i = j) → (∀ i : Nat, i < N' → r i ∉ L) → va_K D cl (tys ++ [(cA, .array ty)]) s →
      va_P D cl ((X ++ [(q, .inl (cA, N', .inr (.inr (.inr (.inr (fun i => if i < N' then some (r i) else none))))))]) ++ va_pl (L ++ (List.range N').map r) (vr_up f ((List.range N').map r) (.inl (cy, z)))) H1 → va_D A ((X ++ [(q, .inl (cA, N', .inr (.inr (.inr (.inr (fun i => if i < N' then some (r i) else none))))))]) ++ va_pl (L ++ (List.range N').map r) (vr_up f ((List.range N').map r) (.inl (cy, z)))) → va_S A H0 H1 locs →
      W p l e R s m args below meth c H1 locs (cells + 1 + N') (slots + N' + N' * K') Q (F0 m (pc + 4) ls (.ref q :: rest))) : W p l e R s m args below meth c H locs cells slots Q (F0 m pc ls (.int k :: .int n :: rest)) := by
  subst hN
  subst hM
  intro T hT Xs
  obtain ⟨vm₁, cA, comp, -, fA, fC, hO, -, X', step⟩ := Xs.multianewarray2F hexec hown hclink hover harr (g := F0 m pc ls (.int k :: .int n :: rest)) rfl (by rw [hb]; exact hdg) rfl hn hk hb1 hb2 hb3 hdf hdd hcells hslots
  have ec : some cy = some comp := hcy.symm.trans fC
  cases ec
  generalize hF : Jvm.Free.Multi.fill (T.setVm vm₁) cA cy n.toNatClampNeg k.toNatClampNeg (defaultValue ty) n.toNatClampNeg = F at X' step
  have hTh : (T.setVm vm₁).heap = H := hT
  obtain ⟨f1, f2, -, -⟩ := Jvm.Free.Multi.fill_facts (T.setVm vm₁) cA cy n.toNatClampNeg k.toNatClampNeg (defaultValue ty) n.toNatClampNeg
  rw [hF, hTh] at f1 f2
  have hold : ∀ x : Nat, x < H.size → F.heap[x]? = H[x]? := fun x hx => by
    have := Jvm.Free.Multi.fill_old (T.setVm vm₁) cA cy n.toNatClampNeg k.toNatClampNeg (defaultValue ty) (a := x) (by rw [hTh]; exact hx) n.toNatClampNeg
    rw [hF, hTh] at this
    exact this
  have hrow : ∀ j : Nat, j < n.toNatClampNeg → F.heap[H.size + 1 + j]? = some (vp_cell cy z) := fun j hj => by
    have := Jvm.Free.Multi.fill_inner (T.setVm vm₁) cA cy n.toNatClampNeg k.toNatClampNeg (defaultValue ty) n.toNatClampNeg j hj
    rw [hF, hTh, hz] at this
    exact this
  have hout : Jvm.Free.Multi.outerC cA n.toNatClampNeg H.size n.toNatClampNeg = vp_cell cA (n.toNatClampNeg, .inr (.inr (.inr (.inr (fun i => if i < n.toNatClampNeg then some (H.size + 1 + i) else none))))) := by
    rw [vp_cell_q]
    exact vr_outer cA n.toNatClampNeg H.size n.toNatClampNeg
  rw [hout] at f2
  have hlt : ∀ a, a ∈ L → a < H.size := fun a ha => by
    obtain ⟨k9, hk9⟩ := va_pl_get (X := X) (f := f) ha
    exact (hP k9 _ hk9).lt
  have hnl : ∀ i : Nat, i < n.toNatClampNeg → H.size + 1 + i ∉ L := fun i _ h => by
    have := hlt _ h
    omega
  have hnm : ∀ a, a ∈ (List.range n.toNatClampNeg).map (fun i => H.size + 1 + i) → a ∉ L := fun a ha h => by
    obtain ⟨i, -, rfl⟩ := List.mem_map.mp ha
    have := hlt _ h
    omega
  have hP0 : va_P D cl (X ++ va_pl L f) F.heap := hP.kept (fun k9 x hx => hold x.1 ((hP k9 x hx).lt))
  have hP1 : va_P D cl ((X ++ va_pl L f) ++ [(H.size, .inl (cA, n.toNatClampNeg, .inr (.inr (.inr (.inr (fun i => if i < n.toNatClampNeg then some (H.size + 1 + i) else none))))))]) F.heap := hP0.app (fun k9 x hx => by
    have h0 : k9 < 1 := (List.getElem?_eq_some_iff.mp hx).1
    rw [show k9 = 0 by omega] at hx
    cases hx
    exact f2)
  have hP2 : va_P D cl (((X ++ va_pl L f) ++ [(H.size, .inl (cA, n.toNatClampNeg, .inr (.inr (.inr (.inr (fun i => if i < n.toNatClampNeg then some (H.size + 1 + i) else none))))))]) ++ ((List.range n.toNatClampNeg).map (fun i => H.size + 1 + i)).map (fun a => (a, .inl (cy, z)))) F.heap := hP1.app (fun k9 x hx => by
    obtain ⟨a, ha, rfl⟩ := List.mem_map.mp (List.mem_of_getElem? hx)
    obtain ⟨i, hi, rfl⟩ := List.mem_map.mp ha
    exact hrow i (List.mem_range.mp hi))
  have hD2 : va_D A (((X ++ va_pl L f) ++ [(H.size, .inl (cA, n.toNatClampNeg, .inr (.inr (.inr (.inr (fun i => if i < n.toNatClampNeg then some (H.size + 1 + i) else none))))))]) ++ ((List.range n.toNatClampNeg).map (fun i => H.size + 1 + i)).map (fun a => (a, .inl (cy, z)))) := by
    have hD1 := hD.push (e := .inl (cA, n.toNatClampNeg, .inr (.inr (.inr (.inr (fun i => if i < n.toNatClampNeg then some (H.size + 1 + i) else none)))))) hP rfl (hA _ hS.1)
    generalize hW1 : (X ++ va_pl L f) ++ [(H.size, .inl (cA, n.toNatClampNeg, .inr (.inr (.inr (.inr (fun i => if i < n.toNatClampNeg then some (H.size + 1 + i) else none))))))] = W1 at hD1 hP1 ⊢
    have hle : ∀ (k9 : Nat) (x : Nat × va_E), W1[k9]? = some x → x.1 ≤ H.size := fun k9 x hx => by
      rw [← hW1] at hx
      by_cases hl : k9 < (X ++ va_pl L f).length
      · rw [List.getElem?_append_left hl] at hx
        exact Nat.le_of_lt ((hP k9 x hx).lt)
      · rw [List.getElem?_append_right (by omega)] at hx
        have h0 : k9 - (X ++ va_pl L f).length < 1 := (List.getElem?_eq_some_iff.mp hx).1
        rw [show k9 - (X ++ va_pl L f).length = 0 by omega] at hx
        cases hx
        exact Nat.le_refl _
    have hr : ∀ (k9 : Nat) (x : Nat × va_E), (((List.range n.toNatClampNeg).map (fun i => H.size + 1 + i)).map (fun a => ((a, .inl (cy, z)) : Nat × va_E)))[k9]? = some x → x.1 = H.size + 1 + k9 := fun k9 x hx => by
      rw [List.getElem?_map, List.getElem?_map] at hx
      by_cases h9 : k9 < n.toNatClampNeg
      · rw [List.getElem?_range h9] at hx
        cases hx
        rfl
      · have hn0 : (List.range n.toNatClampNeg)[k9]? = none := List.getElem?_eq_none (by rw [List.length_range]; omega)
        rw [hn0] at hx
        cases hx
    refine ⟨fun i j x y hi hj hxy => ?_, fun k9 x hx => ?_⟩
    · by_cases h1 : i < W1.length <;> by_cases h2 : j < W1.length
      · rw [List.getElem?_append_left h1] at hi
        rw [List.getElem?_append_left h2] at hj
        exact hD1.1 i j x y hi hj hxy
      · rw [List.getElem?_append_left h1] at hi
        rw [List.getElem?_append_right (by omega)] at hj
        have := hle _ _ hi
        have := hr _ _ hj
        omega
      · rw [List.getElem?_append_right (by omega)] at hi
        rw [List.getElem?_append_left h2] at hj
        have := hle _ _ hj
        have := hr _ _ hi
        omega
      · rw [List.getElem?_append_right (by omega)] at hi hj
        have := hr _ _ hi
        have := hr _ _ hj
        omega
    · by_cases h1 : k9 < W1.length
      · rw [List.getElem?_append_left h1] at hx
        exact hD1.2 k9 x hx
      · rw [List.getElem?_append_right (by omega)] at hx
        have := hr _ _ hx
        exact hA _ (by have := hS.1; omega)
  have hAr : ArrOfT s cA (.array ty) := fun N9 z9 => by
    obtain ⟨-, k9, hk9, cm9, hkk9⟩ := (hO 0 0 0).1
    exact ⟨(fun q hq => by cases hq), k9, hk9, cm9, hkk9⟩
  have hK2 : va_K D cl (tys ++ [(cA, .array ty)]) s := ⟨hK.1, fun k9 x hx => by
    by_cases hl : k9 < tys.length
    · rw [List.getElem?_append_left hl] at hx
      exact hK.2 k9 x hx
    · rw [List.getElem?_append_right (by omega)] at hx
      have h0 : k9 - tys.length < 1 := (List.getElem?_eq_some_iff.mp hx).1
      rw [show k9 - tys.length = 0 by omega] at hx
      cases hx
      exact ⟨hAr, fA⟩⟩
  obtain ⟨t, a1, b1⟩ := kk H.size (fun i => H.size + 1 + i) cA F.heap (fun i j _ _ h => by have h9 : H.size + 1 + i = H.size + 1 + j := h; omega) hnl hK2 (by rw [← vr_rows hnm]; exact vr_lay hP2) (by rw [← vr_rows hnm]; exact vr_layD hD2) ⟨by rw [f1]; have := hS.1; omega, fun x h1 h2 => (hold x (Nat.lt_of_lt_of_le h1 hS.1)).trans (hS.2.1 x h1 h2), hS.2.2⟩ F rfl X'
  refine ⟨t, step t ?_, b1⟩
  have e : T.heap.size = H.size := by rw [hT]
  rw [e]
  exact a1
end VGM
/-! ===== END ===== -/
def RX0 : String := "SceneShots$Past"
def TX0 : u_T := fun k => match k with
  | 0 => ("SceneShots$Past", "scenes", "[LSceneShots$Scene;", true)
  | 1 => ("SceneShots$Past", "known", "I", false)
  | _ => ("SceneShots$Past", "next", "I", false)
def tyX0 : Nat → FieldType := fun k => match k with
  | 0 => .array (.object "SceneShots$Scene")
  | 1 => .int
  | _ => .int
theorem nmX0 : ∀ a, a < 3 → ∀ b, b < 3 → a ≠ b → (TX0 a).2.1 ≠ (TX0 b).2.1 := by decide +kernel
theorem tyX0_ok : ∀ k, k < 3 → parseFieldDescriptor (TX0 k).2.2.1 = some (tyX0 k) := by decide +kernel
abbrev cX0_init : ByteArray := prog_2_method_1_code
def yX0_init : MethodName := ⟨RX0, "<init>", "()V"⟩
abbrev cX0_remember : ByteArray := prog_2_method_2_code
def yX0_remember : MethodName := ⟨RX0, "remember", "(LSceneShots$Scene;)V"⟩
abbrev cX0_restore : ByteArray := prog_2_method_3_code
def yX0_restore : MethodName := ⟨RX0, "restore", "(LSceneShots$Scene;)Z"⟩
def RX1 : String := "SceneShots$Planner"
def TX1 : u_T := fun k => match k with
  | 0 => ("SceneShots$Planner", "coverers", "[I", true)
  | 1 => ("SceneShots$Planner", "followers", "[[I", true)
  | 2 => ("SceneShots$Planner", "cutsBehind", "[[I", true)
  | 3 => ("SceneShots$Planner", "partners", "[I", true)
  | 4 => ("SceneShots$Planner", "prices", "[I", true)
  | 5 => ("SceneShots$Planner", "trial", "[I", true)
  | 6 => ("SceneShots$Planner", "bestEdit", "[I", true)
  | 7 => ("SceneShots$Planner", "lines", "I", false)
  | 8 => ("SceneShots$Planner", "shots", "I", false)
  | 9 => ("SceneShots$Planner", "bestSize", "I", false)
  | _ => ("SceneShots$Planner", "bestCuts", "I", false)
def tyX1 : Nat → FieldType := fun k => match k with
  | 0 => .array .int
  | 1 => .array (.array .int)
  | 2 => .array (.array .int)
  | 3 => .array .int
  | 4 => .array .int
  | 5 => .array .int
  | 6 => .array .int
  | 7 => .int
  | 8 => .int
  | 9 => .int
  | _ => .int
theorem nmX1 : ∀ a, a < 11 → ∀ b, b < 11 → a ≠ b → (TX1 a).2.1 ≠ (TX1 b).2.1 := by decide +kernel
theorem tyX1_ok : ∀ k, k < 11 → parseFieldDescriptor (TX1 k).2.2.1 = some (tyX1 k) := by decide +kernel
abbrev cX1_init : ByteArray := prog_3_method_1_code
def yX1_init : MethodName := ⟨RX1, "<init>", "()V"⟩
abbrev cX1_study : ByteArray := prog_3_method_2_code
def yX1_study : MethodName := ⟨RX1, "study", "(LSceneShots$Scene;)V"⟩
abbrev cX1_followersOf : ByteArray := prog_3_method_3_code
def yX1_followersOf : MethodName := ⟨RX1, "followersOf", "(LSceneShots$Scene;II)I"⟩
abbrev cX1_hasWholeEdit : ByteArray := prog_3_method_4_code
def yX1_hasWholeEdit : MethodName := ⟨RX1, "hasWholeEdit", "(I)Z"⟩
abbrev cX1_findBest : ByteArray := prog_3_method_5_code
def yX1_findBest : MethodName := ⟨RX1, "findBest", "()Z"⟩
abbrev cX1_planTrial : ByteArray := prog_3_method_6_code
def yX1_planTrial : MethodName := ⟨RX1, "planTrial", "(I)I"⟩
abbrev cX1_fewestBehind : ByteArray := prog_3_method_7_code
def yX1_fewestBehind : MethodName := ⟨RX1, "fewestBehind", "(III)I"⟩
abbrev cX1_cheapestOf : ByteArray := prog_3_method_8_code
def yX1_cheapestOf : MethodName := ⟨RX1, "cheapestOf", "(III)I"⟩
abbrev cX1_cutsFrom : ByteArray := prog_3_method_9_code
def yX1_cutsFrom : MethodName := ⟨RX1, "cutsFrom", "(III)I"⟩
abbrev cX1_trialIsLower : ByteArray := prog_3_method_10_code
def yX1_trialIsLower : MethodName := ⟨RX1, "trialIsLower", "()Z"⟩
abbrev cX1_takeTrial : ByteArray := prog_3_method_11_code
def yX1_takeTrial : MethodName := ⟨RX1, "takeTrial", "(II)V"⟩
abbrev cX1_differsFrom : ByteArray := prog_3_method_12_code
def yX1_differsFrom : MethodName := ⟨RX1, "differsFrom", "(LSceneShots$Scene;)I"⟩
abbrev cX1_giveBestTo : ByteArray := prog_3_method_13_code
def yX1_giveBestTo : MethodName := ⟨RX1, "giveBestTo", "(LSceneShots$Scene;)V"⟩
abbrev cX1_dear : ByteArray := prog_3_method_14_code
def yX1_dear : MethodName := ⟨RX1, "dear", "(I)F"⟩
abbrev cX1_cheapestSet : ByteArray := prog_3_method_15_code
def yX1_cheapestSet : MethodName := ⟨RX1, "cheapestSet", "()I"⟩
abbrev cX1_neededShots : ByteArray := prog_3_method_16_code
def yX1_neededShots : MethodName := ⟨RX1, "neededShots", "()I"⟩
def RX2 : String := "SceneShots$Reader"
def TX2 : u_T := fun k => match k with
  | 0 => ("SceneShots$Reader", "text", "[I", true)
  | 1 => ("SceneShots$Reader", "length", "I", false)
  | 2 => ("SceneShots$Reader", "kind", "I", false)
  | 3 => ("SceneShots$Reader", "start", "I", false)
  | 4 => ("SceneShots$Reader", "end", "I", false)
  | 5 => ("SceneShots$Reader", "playersTold", "Z", false)
  | _ => ("SceneShots$Reader", "linesTold", "Z", false)
def tyX2 : Nat → FieldType := fun k => match k with
  | 0 => .array .int
  | 1 => .int
  | 2 => .int
  | 3 => .int
  | 4 => .int
  | 5 => .boolean
  | _ => .boolean
theorem nmX2 : ∀ a, a < 7 → ∀ b, b < 7 → a ≠ b → (TX2 a).2.1 ≠ (TX2 b).2.1 := by decide +kernel
theorem tyX2_ok : ∀ k, k < 7 → parseFieldDescriptor (TX2 k).2.2.1 = some (tyX2 k) := by decide +kernel
abbrev cX2_init : ByteArray := prog_4_method_1_code
def yX2_init : MethodName := ⟨RX2, "<init>", "()V"⟩
abbrev cX2_takeLetter : ByteArray := prog_4_method_2_code
def yX2_takeLetter : MethodName := ⟨RX2, "takeLetter", "(I)Z"⟩
abbrev cX2_dropText : ByteArray := prog_4_method_3_code
def yX2_dropText : MethodName := ⟨RX2, "dropText", "()I"⟩
abbrev cX2_readInto : ByteArray := prog_4_method_4_code
def yX2_readInto : MethodName := ⟨RX2, "readInto", "(LSceneShots$Scene;)I"⟩
abbrev cX2_readItem : ByteArray := prog_4_method_5_code
def yX2_readItem : MethodName := ⟨RX2, "readItem", "(LSceneShots$Scene;)Z"⟩
abbrev cX2_readPlayers : ByteArray := prog_4_method_6_code
def yX2_readPlayers : MethodName := ⟨RX2, "readPlayers", "(LSceneShots$Scene;)Z"⟩
abbrev cX2_readLines : ByteArray := prog_4_method_7_code
def yX2_readLines : MethodName := ⟨RX2, "readLines", "(LSceneShots$Scene;)Z"⟩
abbrev cX2_readShot : ByteArray := prog_4_method_8_code
def yX2_readShot : MethodName := ⟨RX2, "readShot", "(LSceneShots$Scene;)Z"⟩
abbrev cX2_stepToStop : ByteArray := prog_4_method_9_code
def yX2_stepToStop : MethodName := ⟨RX2, "stepToStop", "()Z"⟩
abbrev cX2_stepToFigure : ByteArray := prog_4_method_10_code
def yX2_stepToFigure : MethodName := ⟨RX2, "stepToFigure", "(II)Z"⟩
abbrev cX2_step : ByteArray := prog_4_method_11_code
def yX2_step : MethodName := ⟨RX2, "step", "()V"⟩
abbrev cX2_kindAt : ByteArray := prog_4_method_12_code
def yX2_kindAt : MethodName := ⟨RX2, "kindAt", "(I)I"⟩
abbrev cX2_isWord : ByteArray := prog_4_method_13_code
def yX2_isWord : MethodName := ⟨RX2, "isWord", "(Ljava/lang/String;)Z"⟩
def RX3 : String := "SceneShots$Scene"
def TX3 : u_T := fun k => match k with
  | 0 => ("SceneShots$Scene", "places", "[I", true)
  | 1 => ("SceneShots$Scene", "speakers", "[I", true)
  | 2 => ("SceneShots$Scene", "chosen", "[I", true)
  | 3 => ("SceneShots$Scene", "facts", "[I", true)
  | 4 => ("SceneShots$Scene", "lines", "I", false)
  | _ => ("SceneShots$Scene", "shots", "I", false)
def tyX3 : Nat → FieldType := fun k => match k with
  | 0 => .array .int
  | 1 => .array .int
  | 2 => .array .int
  | 3 => .array .int
  | 4 => .int
  | _ => .int
theorem nmX3 : ∀ a, a < 6 → ∀ b, b < 6 → a ≠ b → (TX3 a).2.1 ≠ (TX3 b).2.1 := by decide +kernel
theorem tyX3_ok : ∀ k, k < 6 → parseFieldDescriptor (TX3 k).2.2.1 = some (tyX3 k) := by decide +kernel
abbrev cX3_init : ByteArray := prog_5_method_1_code
def yX3_init : MethodName := ⟨RX3, "<init>", "()V"⟩
abbrev cX3_startAnew : ByteArray := prog_5_method_2_code
def yX3_startAnew : MethodName := ⟨RX3, "startAnew", "()V"⟩
abbrev cX3_become : ByteArray := prog_5_method_3_code
def yX3_become : MethodName := ⟨RX3, "become", "(LSceneShots$Scene;)V"⟩
abbrev cX3_hasLine : ByteArray := prog_5_method_4_code
def yX3_hasLine : MethodName := ⟨RX3, "hasLine", "(I)Z"⟩
abbrev cX3_hasShot : ByteArray := prog_5_method_5_code
def yX3_hasShot : MethodName := ⟨RX3, "hasShot", "(I)Z"⟩
abbrev cX3_fact : ByteArray := prog_5_method_6_code
def yX3_fact : MethodName := ⟨RX3, "fact", "(II)I"⟩
abbrev cX3_dropShot : ByteArray := prog_5_method_7_code
def yX3_dropShot : MethodName := ⟨RX3, "dropShot", "(I)V"⟩
abbrev cX3_loseShotInEdit : ByteArray := prog_5_method_8_code
def yX3_loseShotInEdit : MethodName := ⟨RX3, "loseShotInEdit", "(I)I"⟩
abbrev cX3_covers : ByteArray := prog_5_method_9_code
def yX3_covers : MethodName := ⟨RX3, "covers", "(II)Z"⟩
abbrev cX3_coverers : ByteArray := prog_5_method_10_code
def yX3_coverers : MethodName := ⟨RX3, "coverers", "(I)I"⟩
abbrev cX3_side : ByteArray := prog_5_method_11_code
def yX3_side : MethodName := ⟨RX3, "side", "(I)I"⟩
abbrev cX3_wayX : ByteArray := prog_5_method_12_code
def yX3_wayX : MethodName := ⟨RX3, "wayX", "(I)I"⟩
abbrev cX3_wayY : ByteArray := prog_5_method_13_code
def yX3_wayY : MethodName := ⟨RX3, "wayY", "(I)I"⟩
abbrev cX3_near : ByteArray := prog_5_method_14_code
def yX3_near : MethodName := ⟨RX3, "near", "(II)Z"⟩
abbrev cX3_tooLike : ByteArray := prog_5_method_15_code
def yX3_tooLike : MethodName := ⟨RX3, "tooLike", "(II)Z"⟩
abbrev cX3_canBeCut : ByteArray := prog_5_method_16_code
def yX3_canBeCut : MethodName := ⟨RX3, "canBeCut", "(II)Z"⟩
abbrev cX3_partners : ByteArray := prog_5_method_17_code
def yX3_partners : MethodName := ⟨RX3, "partners", "(I)I"⟩
abbrev cX3_isReaction : ByteArray := prog_5_method_18_code
def yX3_isReaction : MethodName := ⟨RX3, "isReaction", "(II)Z"⟩
abbrev cX3_linesWithoutShot : ByteArray := prog_5_method_19_code
def yX3_linesWithoutShot : MethodName := ⟨RX3, "linesWithoutShot", "()I"⟩
abbrev cX3_isCutAhead : ByteArray := prog_5_method_20_code
def yX3_isCutAhead : MethodName := ⟨RX3, "isCutAhead", "(I)Z"⟩
abbrev cX3_wrongCuts : ByteArray := prog_5_method_21_code
def yX3_wrongCuts : MethodName := ⟨RX3, "wrongCuts", "()I"⟩
abbrev cX3_doubleReactions : ByteArray := prog_5_method_22_code
def yX3_doubleReactions : MethodName := ⟨RX3, "doubleReactions", "()I"⟩
abbrev cX3_cuts : ByteArray := prog_5_method_23_code
def yX3_cuts : MethodName := ⟨RX3, "cuts", "()I"⟩
abbrev cX3_shotsUsed : ByteArray := prog_5_method_24_code
def yX3_shotsUsed : MethodName := ⟨RX3, "shotsUsed", "()I"⟩
def RX4 : String := "SceneShots$Sights"
def TX4 : u_T := fun k => match k with
  | 0 => ("SceneShots$Sights", "whats", "[I", true)
  | 1 => ("SceneShots$Sights", "numbers", "[I", true)
  | _ => ("SceneShots$Sights", "seen", "I", false)
def tyX4 : Nat → FieldType := fun k => match k with
  | 0 => .array .int
  | 1 => .array .int
  | _ => .int
theorem nmX4 : ∀ a, a < 3 → ∀ b, b < 3 → a ≠ b → (TX4 a).2.1 ≠ (TX4 b).2.1 := by decide +kernel
theorem tyX4_ok : ∀ k, k < 3 → parseFieldDescriptor (TX4 k).2.2.1 = some (tyX4 k) := by decide +kernel
abbrev cX4_init : ByteArray := prog_6_method_1_code
def yX4_init : MethodName := ⟨RX4, "<init>", "()V"⟩
abbrev cX4_note : ByteArray := prog_6_method_2_code
def yX4_note : MethodName := ⟨RX4, "note", "(II)Z"⟩
abbrev cX4_dropAll : ByteArray := prog_6_method_3_code
def yX4_dropAll : MethodName := ⟨RX4, "dropAll", "()I"⟩
abbrev cX4_fitting : ByteArray := prog_6_method_4_code
def yX4_fitting : MethodName := ⟨RX4, "fitting", "(LSceneShots$Scene;)I"⟩
abbrev cX4_fits : ByteArray := prog_6_method_5_code
def yX4_fits : MethodName := ⟨RX4, "fits", "(LSceneShots$Scene;I)Z"⟩
abbrev cX4_look : ByteArray := prog_6_method_6_code
def yX4_look : MethodName := ⟨RX4, "look", "(LSceneShots$Scene;II)I"⟩
def RX5 : String := "SceneShots"
def TX5 : u_T := fun k => match k with
  | 0 => ("SceneShots", "scene", "LSceneShots$Scene;", true)
  | 1 => ("SceneShots", "draft", "LSceneShots$Scene;", true)
  | 2 => ("SceneShots", "past", "LSceneShots$Past;", true)
  | 3 => ("SceneShots", "reader", "LSceneShots$Reader;", true)
  | 4 => ("SceneShots", "planner", "LSceneShots$Planner;", true)
  | 5 => ("SceneShots", "sights", "LSceneShots$Sights;", true)
  | 6 => ("SceneShots", "images", "[LSceneShots$Scene;", true)
  | _ => ("SceneShots", "kept", "[Z", true)
def tyX5 : Nat → FieldType := fun k => match k with
  | 0 => .object "SceneShots$Scene"
  | 1 => .object "SceneShots$Scene"
  | 2 => .object "SceneShots$Past"
  | 3 => .object "SceneShots$Reader"
  | 4 => .object "SceneShots$Planner"
  | 5 => .object "SceneShots$Sights"
  | 6 => .array (.object "SceneShots$Scene")
  | _ => .array .boolean
theorem nmX5 : ∀ a, a < 8 → ∀ b, b < 8 → a ≠ b → (TX5 a).2.1 ≠ (TX5 b).2.1 := by decide +kernel
theorem tyX5_ok : ∀ k, k < 8 → parseFieldDescriptor (TX5 k).2.2.1 = some (tyX5 k) := by decide +kernel
abbrev cX5_init : ByteArray := prog_1_method_1_code
def yX5_init : MethodName := ⟨RX5, "<init>", "()V"⟩
abbrev cX5_type : ByteArray := prog_1_method_2_code
def yX5_type : MethodName := ⟨RX5, "type", "(I)I"⟩
abbrev cX5_clear : ByteArray := prog_1_method_3_code
def yX5_clear : MethodName := ⟨RX5, "clear", "()I"⟩
abbrev cX5_tells : ByteArray := prog_1_method_4_code
def yX5_tells : MethodName := ⟨RX5, "tells", "()I"⟩
abbrev cX5_puts : ByteArray := prog_1_method_5_code
def yX5_puts : MethodName := ⟨RX5, "puts", "(II)I"⟩
abbrev cX5_takes : ByteArray := prog_1_method_6_code
def yX5_takes : MethodName := ⟨RX5, "takes", "(I)I"⟩
abbrev cX5_strikes : ByteArray := prog_1_method_7_code
def yX5_strikes : MethodName := ⟨RX5, "strikes", "(I)I"⟩
abbrev cX5_makes : ByteArray := prog_1_method_8_code
def yX5_makes : MethodName := ⟨RX5, "makes", "()I"⟩
abbrev cX5_undo : ByteArray := prog_1_method_9_code
def yX5_undo : MethodName := ⟨RX5, "undo", "()I"⟩
abbrev cX5_line : ByteArray := prog_1_method_10_code
def yX5_line : MethodName := ⟨RX5, "line", "(II)I"⟩
abbrev cX5_shot : ByteArray := prog_1_method_11_code
def yX5_shot : MethodName := ⟨RX5, "shot", "(II)I"⟩
abbrev cX5_player : ByteArray := prog_1_method_12_code
def yX5_player : MethodName := ⟨RX5, "player", "(II)I"⟩
abbrev cX5_edit : ByteArray := prog_1_method_13_code
def yX5_edit : MethodName := ⟨RX5, "edit", "(I)I"⟩
abbrev cX5_best : ByteArray := prog_1_method_14_code
def yX5_best : MethodName := ⟨RX5, "best", "(I)I"⟩
abbrev cX5_cheapest : ByteArray := prog_1_method_15_code
def yX5_cheapest : MethodName := ⟨RX5, "cheapest", "(I)I"⟩
abbrev cX5_needed : ByteArray := prog_1_method_16_code
def yX5_needed : MethodName := ⟨RX5, "needed", "()I"⟩
abbrev cX5_sees : ByteArray := prog_1_method_17_code
def yX5_sees : MethodName := ⟨RX5, "sees", "(II)I"⟩
abbrev cX5_forget : ByteArray := prog_1_method_18_code
def yX5_forget : MethodName := ⟨RX5, "forget", "()I"⟩
abbrev cX5_which : ByteArray := prog_1_method_19_code
def yX5_which : MethodName := ⟨RX5, "which", "(I)I"⟩
abbrev cX5_keep : ByteArray := prog_1_method_20_code
def yX5_keep : MethodName := ⟨RX5, "keep", "(I)I"⟩
abbrev cX5_back : ByteArray := prog_1_method_21_code
def yX5_back : MethodName := ⟨RX5, "back", "(I)I"⟩
abbrev cX5_count : ByteArray := prog_1_method_22_code
def yX5_count : MethodName := ⟨RX5, "count", "(I)I"⟩
def RX6 : String := "SceneShotsModel"
def TX6 : u_T := fun k => match k with
  | 0 => ("SceneShotsModel", "now", "[I", true)
  | 1 => ("SceneShotsModel", "read", "[I", true)
  | 2 => ("SceneShotsModel", "past", "[I", true)
  | 3 => ("SceneShotsModel", "deeds", "I", false)
  | 4 => ("SceneShotsModel", "images", "[I", true)
  | 5 => ("SceneShotsModel", "isKept", "[Z", true)
  | 6 => ("SceneShotsModel", "text", "[I", true)
  | 7 => ("SceneShotsModel", "letters", "I", false)
  | 8 => ("SceneShotsModel", "at", "I", false)
  | 9 => ("SceneShotsModel", "token", "I", false)
  | 10 => ("SceneShotsModel", "tokenAt", "I", false)
  | 11 => ("SceneShotsModel", "seenWhat", "[I", true)
  | 12 => ("SceneShotsModel", "seenIs", "[I", true)
  | 13 => ("SceneShotsModel", "seen", "I", false)
  | 14 => ("SceneShotsModel", "arePlayersTold", "Z", false)
  | 15 => ("SceneShotsModel", "areLinesTold", "Z", false)
  | 16 => ("SceneShotsModel", "items", "I", false)
  | 17 => ("SceneShotsModel", "cuts", "[I", true)
  | 18 => ("SceneShotsModel", "way", "[I", true)
  | 19 => ("SceneShotsModel", "wayCuts", "I", false)
  | 20 => ("SceneShotsModel", "best", "[I", true)
  | 21 => ("SceneShotsModel", "bestCuts", "I", false)
  | _ => ("SceneShotsModel", "bestShots", "I", false)
def tyX6 : Nat → FieldType := fun k => match k with
  | 0 => .array .int
  | 1 => .array .int
  | 2 => .array .int
  | 3 => .int
  | 4 => .array .int
  | 5 => .array .boolean
  | 6 => .array .int
  | 7 => .int
  | 8 => .int
  | 9 => .int
  | 10 => .int
  | 11 => .array .int
  | 12 => .array .int
  | 13 => .int
  | 14 => .boolean
  | 15 => .boolean
  | 16 => .int
  | 17 => .array .int
  | 18 => .array .int
  | 19 => .int
  | 20 => .array .int
  | 21 => .int
  | _ => .int
theorem nmX6 : ∀ a, a < 23 → ∀ b, b < 23 → a ≠ b → (TX6 a).2.1 ≠ (TX6 b).2.1 := by decide +kernel
theorem tyX6_ok : ∀ k, k < 23 → parseFieldDescriptor (TX6 k).2.2.1 = some (tyX6 k) := by decide +kernel
abbrev cX6_init : ByteArray := prog_8_method_1_code
def yX6_init : MethodName := ⟨RX6, "<init>", "()V"⟩
abbrev cX6_in : ByteArray := prog_8_method_2_code
def yX6_in : MethodName := ⟨RX6, "in", "(III)Z"⟩
abbrev cX6_bring : ByteArray := prog_8_method_3_code
def yX6_bring : MethodName := ⟨RX6, "bring", "([II[II)V"⟩
abbrev cX6_note : ByteArray := prog_8_method_4_code
def yX6_note : MethodName := ⟨RX6, "note", "()V"⟩
abbrev cX6_beginRead : ByteArray := prog_8_method_5_code
def yX6_beginRead : MethodName := ⟨RX6, "beginRead", "()V"⟩
abbrev cX6_isLetter : ByteArray := prog_8_method_6_code
def yX6_isLetter : MethodName := ⟨RX6, "isLetter", "(I)Z"⟩
abbrev cX6_isFigure : ByteArray := prog_8_method_7_code
def yX6_isFigure : MethodName := ⟨RX6, "isFigure", "(I)Z"⟩
abbrev cX6_wordFrom : ByteArray := prog_8_method_8_code
def yX6_wordFrom : MethodName := ⟨RX6, "wordFrom", "(II)J"⟩
abbrev cX6_next : ByteArray := prog_8_method_9_code
def yX6_next : MethodName := ⟨RX6, "next", "()V"⟩
abbrev cX6_figure : ByteArray := prog_8_method_10_code
def yX6_figure : MethodName := ⟨RX6, "figure", "(II)I"⟩
abbrev cX6_isEnded : ByteArray := prog_8_method_11_code
def yX6_isEnded : MethodName := ⟨RX6, "isEnded", "()Z"⟩
abbrev cX6_readPlayers : ByteArray := prog_8_method_12_code
def yX6_readPlayers : MethodName := ⟨RX6, "readPlayers", "()Z"⟩
abbrev cX6_readLines : ByteArray := prog_8_method_13_code
def yX6_readLines : MethodName := ⟨RX6, "readLines", "()Z"⟩
abbrev cX6_readShot : ByteArray := prog_8_method_14_code
def yX6_readShot : MethodName := ⟨RX6, "readShot", "()Z"⟩
abbrev cX6_readText : ByteArray := prog_8_method_15_code
def yX6_readText : MethodName := ⟨RX6, "readText", "()I"⟩
abbrev cX6_type : ByteArray := prog_8_method_16_code
def yX6_type : MethodName := ⟨RX6, "type", "(I)I"⟩
abbrev cX6_clear : ByteArray := prog_8_method_17_code
def yX6_clear : MethodName := ⟨RX6, "clear", "()I"⟩
abbrev cX6_tells : ByteArray := prog_8_method_18_code
def yX6_tells : MethodName := ⟨RX6, "tells", "()I"⟩
abbrev cX6_of : ByteArray := prog_8_method_19_code
def yX6_of : MethodName := ⟨RX6, "of", "(II)I"⟩
abbrev cX6_isLine : ByteArray := prog_8_method_20_code
def yX6_isLine : MethodName := ⟨RX6, "isLine", "(I)Z"⟩
abbrev cX6_isShot : ByteArray := prog_8_method_21_code
def yX6_isShot : MethodName := ⟨RX6, "isShot", "(I)Z"⟩
abbrev cX6_sideOf : ByteArray := prog_8_method_22_code
def yX6_sideOf : MethodName := ⟨RX6, "sideOf", "(I)I"⟩
abbrev cX6_wayOf : ByteArray := prog_8_method_23_code
def yX6_wayOf : MethodName := ⟨RX6, "wayOf", "(II)I"⟩
abbrev cX6_areNear : ByteArray := prog_8_method_24_code
def yX6_areNear : MethodName := ⟨RX6, "areNear", "(II)Z"⟩
abbrev cX6_canCut : ByteArray := prog_8_method_25_code
def yX6_canCut : MethodName := ⟨RX6, "canCut", "(II)Z"⟩
abbrev cX6_covers : ByteArray := prog_8_method_26_code
def yX6_covers : MethodName := ⟨RX6, "covers", "(II)Z"⟩
abbrev cX6_isReaction : ByteArray := prog_8_method_27_code
def yX6_isReaction : MethodName := ⟨RX6, "isReaction", "(II)Z"⟩
abbrev cX6_mayFollow : ByteArray := prog_8_method_28_code
def yX6_mayFollow : MethodName := ⟨RX6, "mayFollow", "(III)Z"⟩
abbrev cX6_findCuts : ByteArray := prog_8_method_29_code
def yX6_findCuts : MethodName := ⟨RX6, "findCuts", "(I)V"⟩
abbrev cX6_findWay : ByteArray := prog_8_method_30_code
def yX6_findWay : MethodName := ⟨RX6, "findWay", "(I)Z"⟩
abbrev cX6_ones : ByteArray := prog_8_method_31_code
def yX6_ones : MethodName := ⟨RX6, "ones", "(I)I"⟩
abbrev cX6_isBefore : ByteArray := prog_8_method_32_code
def yX6_isBefore : MethodName := ⟨RX6, "isBefore", "()Z"⟩
abbrev cX6_findBest : ByteArray := prog_8_method_33_code
def yX6_findBest : MethodName := ⟨RX6, "findBest", "()Z"⟩
abbrev cX6_puts : ByteArray := prog_8_method_34_code
def yX6_puts : MethodName := ⟨RX6, "puts", "(II)I"⟩
abbrev cX6_takes : ByteArray := prog_8_method_35_code
def yX6_takes : MethodName := ⟨RX6, "takes", "(I)I"⟩
abbrev cX6_strikes : ByteArray := prog_8_method_36_code
def yX6_strikes : MethodName := ⟨RX6, "strikes", "(I)I"⟩
abbrev cX6_makes : ByteArray := prog_8_method_37_code
def yX6_makes : MethodName := ⟨RX6, "makes", "()I"⟩
abbrev cX6_undo : ByteArray := prog_8_method_38_code
def yX6_undo : MethodName := ⟨RX6, "undo", "()I"⟩
abbrev cX6_coversOf : ByteArray := prog_8_method_39_code
def yX6_coversOf : MethodName := ⟨RX6, "coversOf", "(I)I"⟩
abbrev cX6_line : ByteArray := prog_8_method_40_code
def yX6_line : MethodName := ⟨RX6, "line", "(II)I"⟩
abbrev cX6_cutsOf : ByteArray := prog_8_method_41_code
def yX6_cutsOf : MethodName := ⟨RX6, "cutsOf", "(I)I"⟩
abbrev cX6_shot : ByteArray := prog_8_method_42_code
def yX6_shot : MethodName := ⟨RX6, "shot", "(II)I"⟩
abbrev cX6_player : ByteArray := prog_8_method_43_code
def yX6_player : MethodName := ⟨RX6, "player", "(II)I"⟩
abbrev cX6_edit : ByteArray := prog_8_method_44_code
def yX6_edit : MethodName := ⟨RX6, "edit", "(I)I"⟩
abbrev cX6_best : ByteArray := prog_8_method_45_code
def yX6_best : MethodName := ⟨RX6, "best", "(I)I"⟩
abbrev cX6_dearOf : ByteArray := prog_8_method_46_code
def yX6_dearOf : MethodName := ⟨RX6, "dearOf", "(I)F"⟩
abbrev cX6_cheapest : ByteArray := prog_8_method_47_code
def yX6_cheapest : MethodName := ⟨RX6, "cheapest", "(I)I"⟩
abbrev cX6_needed : ByteArray := prog_8_method_48_code
def yX6_needed : MethodName := ⟨RX6, "needed", "()I"⟩
abbrev cX6_sees : ByteArray := prog_8_method_49_code
def yX6_sees : MethodName := ⟨RX6, "sees", "(II)I"⟩
abbrev cX6_forget : ByteArray := prog_8_method_50_code
def yX6_forget : MethodName := ⟨RX6, "forget", "()I"⟩
abbrev cX6_isSo : ByteArray := prog_8_method_51_code
def yX6_isSo : MethodName := ⟨RX6, "isSo", "(I)Z"⟩
abbrev cX6_which : ByteArray := prog_8_method_52_code
def yX6_which : MethodName := ⟨RX6, "which", "(I)I"⟩
abbrev cX6_keep : ByteArray := prog_8_method_53_code
def yX6_keep : MethodName := ⟨RX6, "keep", "(I)I"⟩
abbrev cX6_back : ByteArray := prog_8_method_54_code
def yX6_back : MethodName := ⟨RX6, "back", "(I)I"⟩
abbrev cX6_count : ByteArray := prog_8_method_55_code
def yX6_count : MethodName := ⟨RX6, "count", "(I)I"⟩
def RJ6 : String := "java/lang/Integer"
def TJ6 : u_T := fun k => match k with
  | _ => ("", "", "", false)
def tyJ6 : Nat → FieldType := fun k => match k with
  | _ => .int
theorem nmJ6 : ∀ a, a < 0 → ∀ b, b < 0 → a ≠ b → (TJ6 a).2.1 ≠ (TJ6 b).2.1 := by decide +kernel
theorem tyJ6_ok : ∀ k, k < 0 → parseFieldDescriptor (TJ6 k).2.2.1 = some (tyJ6 k) := by decide +kernel
abbrev cJ6_numberOfTrailingZeros_0f7a4 : ByteArray := prog_9_method_48_code
def yJ6_numberOfTrailingZeros_0f7a4 : MethodName := ⟨RJ6, "numberOfTrailingZeros", "(I)I"⟩
abbrev cJ6_bitCount_0f7a4 : ByteArray := prog_9_method_49_code
def yJ6_bitCount_0f7a4 : MethodName := ⟨RJ6, "bitCount", "(I)I"⟩
abbrev cJ6_signum_0f7a4 : ByteArray := prog_9_method_56_code
def yJ6_signum_0f7a4 : MethodName := ⟨RJ6, "signum", "(I)I"⟩
def RJ9 : String := "java/lang/Math"
def TJ9 : u_T := fun k => match k with
  | _ => ("", "", "", false)
def tyJ9 : Nat → FieldType := fun k => match k with
  | _ => .int
theorem nmJ9 : ∀ a, a < 0 → ∀ b, b < 0 → a ≠ b → (TJ9 a).2.1 ≠ (TJ9 b).2.1 := by decide +kernel
theorem tyJ9_ok : ∀ k, k < 0 → parseFieldDescriptor (TJ9 k).2.2.1 = some (tyJ9 k) := by decide +kernel
abbrev cJ9_abs_0f7a4 : ByteArray := prog_10_method_59_code
def yJ9_abs_0f7a4 : MethodName := ⟨RJ9, "abs", "(I)I"⟩
abbrev cJ9_min_7cf53 : ByteArray := prog_10_method_69_code
def yJ9_min_7cf53 : MethodName := ⟨RJ9, "min", "(II)I"⟩
def RJ0 : String := "java/lang/String"
def TJ0 : u_T := fun k => match k with
  | _ => ("", "", "", false)
def tyJ0 : Nat → FieldType := fun k => match k with
  | _ => .int
theorem nmJ0 : ∀ a, a < 0 → ∀ b, b < 0 → a ≠ b → (TJ0 a).2.1 ≠ (TJ0 b).2.1 := by decide +kernel
theorem tyJ0_ok : ∀ k, k < 0 → parseFieldDescriptor (TJ0 k).2.2.1 = some (tyJ0 k) := by decide +kernel
abbrev cJ0_length_8abf5 : ByteArray := prog_11_method_54_code
def yJ0_length_8abf5 : MethodName := ⟨RJ0, "length", "()I"⟩
abbrev cJ0_charAt_5068e : ByteArray := prog_11_method_56_code
def yJ0_charAt_5068e : MethodName := ⟨RJ0, "charAt", "(I)C"⟩
abbrev cJ0_coder_7d493 : ByteArray := prog_11_method_152_code
def yJ0_coder_7d493 : MethodName := ⟨RJ0, "coder", "()B"⟩
abbrev cJ0_isLatin1_aae02 : ByteArray := prog_11_method_154_code
def yJ0_isLatin1_aae02 : MethodName := ⟨RJ0, "isLatin1", "()Z"⟩
abbrev cJ0_checkIndex_df160 : ByteArray := prog_11_method_155_code
def yJ0_checkIndex_df160 : MethodName := ⟨RJ0, "checkIndex", "(II)V"⟩
def RJ1 : String := "java/lang/StringLatin1"
def TJ1 : u_T := fun k => match k with
  | _ => ("", "", "", false)
def tyJ1 : Nat → FieldType := fun k => match k with
  | _ => .int
theorem nmJ1 : ∀ a, a < 0 → ∀ b, b < 0 → a ≠ b → (TJ1 a).2.1 ≠ (TJ1 b).2.1 := by decide +kernel
theorem tyJ1_ok : ∀ k, k < 0 → parseFieldDescriptor (TJ1 k).2.2.1 = some (tyJ1 k) := by decide +kernel
abbrev cJ1_charAt_3b067 : ByteArray := prog_12_method_2_code
def yJ1_charAt_3b067 : MethodName := ⟨RJ1, "charAt", "([BI)C"⟩
def RJ2 : String := "java/lang/StringUTF16"
def TJ2 : u_T := fun k => match k with
  | _ => ("", "", "", false)
def tyJ2 : Nat → FieldType := fun k => match k with
  | _ => .int
theorem nmJ2 : ∀ a, a < 0 → ∀ b, b < 0 → a ≠ b → (TJ2 a).2.1 ≠ (TJ2 b).2.1 := by decide +kernel
theorem tyJ2_ok : ∀ k, k < 0 → parseFieldDescriptor (TJ2 k).2.2.1 = some (tyJ2 k) := by decide +kernel
abbrev cJ2_getChar_3b067 : ByteArray := prog_13_method_5_code
def yJ2_getChar_3b067 : MethodName := ⟨RJ2, "getChar", "([BI)C"⟩
abbrev cJ2_length_9d52b : ByteArray := prog_13_method_6_code
def yJ2_length_9d52b : MethodName := ⟨RJ2, "length", "([B)I"⟩
abbrev cJ2_charAt_3b067 : ByteArray := prog_13_method_83_code
def yJ2_charAt_3b067 : MethodName := ⟨RJ2, "charAt", "([BI)C"⟩
abbrev cJ2_checkIndex_2214a : ByteArray := prog_13_method_91_code
def yJ2_checkIndex_2214a : MethodName := ⟨RJ2, "checkIndex", "(I[B)V"⟩
def RJ10 : String := "java/lang/System"
def TJ10 : u_T := fun k => match k with
  | _ => ("", "", "", false)
def tyJ10 : Nat → FieldType := fun k => match k with
  | _ => .int
theorem nmJ10 : ∀ a, a < 0 → ∀ b, b < 0 → a ≠ b → (TJ10 a).2.1 ≠ (TJ10 b).2.1 := by decide +kernel
theorem tyJ10_ok : ∀ k, k < 0 → parseFieldDescriptor (TJ10 k).2.2.1 = some (tyJ10 k) := by decide +kernel
def RJ3 : String := "jdk/internal/util/Preconditions"
def TJ3 : u_T := fun k => match k with
  | _ => ("", "", "", false)
def tyJ3 : Nat → FieldType := fun k => match k with
  | _ => .int
theorem nmJ3 : ∀ a, a < 0 → ∀ b, b < 0 → a ≠ b → (TJ3 a).2.1 ≠ (TJ3 b).2.1 := by decide +kernel
theorem tyJ3_ok : ∀ k, k < 0 → parseFieldDescriptor (TJ3 k).2.2.1 = some (tyJ3 k) := by decide +kernel
abbrev cJ3_checkIndex_8e157 : ByteArray := prog_15_method_11_code
def yJ3_checkIndex_8e157 : MethodName := ⟨RJ3, "checkIndex", "(IILjava/util/function/BiFunction;)I"⟩
def RL : String := "SceneShotsLaw"
abbrev cL_law : ByteArray := code
def yL_law : MethodName := ⟨RL, "law", "([I)Z"⟩
abbrev vwCl : List vw_C := [(RX0, TX0, 3), (RX1, TX1, 11), (RX2, TX2, 7), (RX3, TX3, 6), (RX4, TX4, 3), (RX5, TX5, 8), (RX6, TX6, 23)]
