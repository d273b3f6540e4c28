section
-- ===== PART A: goes FIRST, ahead of the names: the tables' words, and 'selects' of the private methods out of them =====
/-- a private method of a class that the tables say can be made, by its rows of tables_1 -/
def lw_okq (q : MethodName × Nat) : Prop := (q.1.cls ≠ "java/lang/invoke/MethodHandle" ∧ q.1.cls ≠ "java/lang/invoke/VarHandle") ∧ Cond.instantiable q.1.cls q.2 ∈ tables_1 ∧ Cond.privateMethod q.1 ∈ tables_1 ∧ Cond.instanceMethod q.1 ∈ tables_1
theorem lw_p0 : lw_okq (⟨"SceneShotsModel", "beginRead", "()V"⟩, 23) := ⟨⟨by decide +kernel, by decide +kernel⟩, List.mem_of_getElem? (i := 613) (by decide +kernel), List.mem_of_getElem? (i := 619) (by decide +kernel), List.mem_of_getElem? (i := 620) (by decide +kernel)⟩
theorem lw_p1 : lw_okq (⟨"SceneShotsModel", "readText", "()I"⟩, 23) := ⟨⟨by decide +kernel, by decide +kernel⟩, List.mem_of_getElem? (i := 613) (by decide +kernel), List.mem_of_getElem? (i := 711) (by decide +kernel), List.mem_of_getElem? (i := 712) (by decide +kernel)⟩
theorem lw_p2 : lw_okq (⟨"SceneShotsModel", "next", "()V"⟩, 23) := ⟨⟨by decide +kernel, by decide +kernel⟩, List.mem_of_getElem? (i := 613) (by decide +kernel), List.mem_of_getElem? (i := 715) (by decide +kernel), List.mem_of_getElem? (i := 716) (by decide +kernel)⟩
theorem lw_p3 : lw_okq (⟨"SceneShotsModel", "isLetter", "(I)Z"⟩, 23) := ⟨⟨by decide +kernel, by decide +kernel⟩, List.mem_of_getElem? (i := 613) (by decide +kernel), List.mem_of_getElem? (i := 719) (by decide +kernel), List.mem_of_getElem? (i := 720) (by decide +kernel)⟩
theorem lw_p4 : lw_okq (⟨"SceneShotsModel", "wordFrom", "(II)J"⟩, 23) := ⟨⟨by decide +kernel, by decide +kernel⟩, List.mem_of_getElem? (i := 613) (by decide +kernel), List.mem_of_getElem? (i := 723) (by decide +kernel), List.mem_of_getElem? (i := 724) (by decide +kernel)⟩
theorem lw_p5 : lw_okq (⟨"SceneShotsModel", "isFigure", "(I)Z"⟩, 23) := ⟨⟨by decide +kernel, by decide +kernel⟩, List.mem_of_getElem? (i := 613) (by decide +kernel), List.mem_of_getElem? (i := 732) (by decide +kernel), List.mem_of_getElem? (i := 733) (by decide +kernel)⟩
theorem lw_p6 : lw_okq (⟨"SceneShotsModel", "readPlayers", "()Z"⟩, 23) := ⟨⟨by decide +kernel, by decide +kernel⟩, List.mem_of_getElem? (i := 613) (by decide +kernel), List.mem_of_getElem? (i := 736) (by decide +kernel), List.mem_of_getElem? (i := 737) (by decide +kernel)⟩
theorem lw_p7 : lw_okq (⟨"SceneShotsModel", "figure", "(II)I"⟩, 23) := ⟨⟨by decide +kernel, by decide +kernel⟩, List.mem_of_getElem? (i := 613) (by decide +kernel), List.mem_of_getElem? (i := 740) (by decide +kernel), List.mem_of_getElem? (i := 741) (by decide +kernel)⟩
theorem lw_p8 : lw_okq (⟨"SceneShotsModel", "isEnded", "()Z"⟩, 23) := ⟨⟨by decide +kernel, by decide +kernel⟩, List.mem_of_getElem? (i := 613) (by decide +kernel), List.mem_of_getElem? (i := 744) (by decide +kernel), List.mem_of_getElem? (i := 745) (by decide +kernel)⟩
theorem lw_p9 : lw_okq (⟨"SceneShotsModel", "readLines", "()Z"⟩, 23) := ⟨⟨by decide +kernel, by decide +kernel⟩, List.mem_of_getElem? (i := 613) (by decide +kernel), List.mem_of_getElem? (i := 748) (by decide +kernel), List.mem_of_getElem? (i := 749) (by decide +kernel)⟩
theorem lw_p10 : lw_okq (⟨"SceneShotsModel", "readShot", "()Z"⟩, 23) := ⟨⟨by decide +kernel, by decide +kernel⟩, List.mem_of_getElem? (i := 613) (by decide +kernel), List.mem_of_getElem? (i := 752) (by decide +kernel), List.mem_of_getElem? (i := 753) (by decide +kernel)⟩
theorem lw_p11 : lw_okq (⟨"SceneShotsModel", "note", "()V"⟩, 23) := ⟨⟨by decide +kernel, by decide +kernel⟩, List.mem_of_getElem? (i := 613) (by decide +kernel), List.mem_of_getElem? (i := 756) (by decide +kernel), List.mem_of_getElem? (i := 757) (by decide +kernel)⟩
theorem lw_p12 : lw_okq (⟨"SceneShotsModel", "isLine", "(I)Z"⟩, 23) := ⟨⟨by decide +kernel, by decide +kernel⟩, List.mem_of_getElem? (i := 613) (by decide +kernel), List.mem_of_getElem? (i := 764) (by decide +kernel), List.mem_of_getElem? (i := 765) (by decide +kernel)⟩
theorem lw_p13 : lw_okq (⟨"SceneShotsModel", "isShot", "(I)Z"⟩, 23) := ⟨⟨by decide +kernel, by decide +kernel⟩, List.mem_of_getElem? (i := 613) (by decide +kernel), List.mem_of_getElem? (i := 768) (by decide +kernel), List.mem_of_getElem? (i := 769) (by decide +kernel)⟩
theorem lw_p14 : lw_okq (⟨"SceneShotsModel", "covers", "(II)Z"⟩, 23) := ⟨⟨by decide +kernel, by decide +kernel⟩, List.mem_of_getElem? (i := 613) (by decide +kernel), List.mem_of_getElem? (i := 772) (by decide +kernel), List.mem_of_getElem? (i := 773) (by decide +kernel)⟩
theorem lw_p15 : lw_okq (⟨"SceneShotsModel", "of", "(II)I"⟩, 23) := ⟨⟨by decide +kernel, by decide +kernel⟩, List.mem_of_getElem? (i := 613) (by decide +kernel), List.mem_of_getElem? (i := 776) (by decide +kernel), List.mem_of_getElem? (i := 777) (by decide +kernel)⟩
def lw_privs_1 : List (MethodName × Nat) := [(⟨"SceneShotsModel", "beginRead", "()V"⟩, 23), (⟨"SceneShotsModel", "readText", "()I"⟩, 23), (⟨"SceneShotsModel", "next", "()V"⟩, 23), (⟨"SceneShotsModel", "isLetter", "(I)Z"⟩, 23), (⟨"SceneShotsModel", "wordFrom", "(II)J"⟩, 23), (⟨"SceneShotsModel", "isFigure", "(I)Z"⟩, 23), (⟨"SceneShotsModel", "readPlayers", "()Z"⟩, 23), (⟨"SceneShotsModel", "figure", "(II)I"⟩, 23), (⟨"SceneShotsModel", "isEnded", "()Z"⟩, 23), (⟨"SceneShotsModel", "readLines", "()Z"⟩, 23), (⟨"SceneShotsModel", "readShot", "()Z"⟩, 23), (⟨"SceneShotsModel", "note", "()V"⟩, 23), (⟨"SceneShotsModel", "isLine", "(I)Z"⟩, 23), (⟨"SceneShotsModel", "isShot", "(I)Z"⟩, 23), (⟨"SceneShotsModel", "covers", "(II)Z"⟩, 23), (⟨"SceneShotsModel", "of", "(II)I"⟩, 23)]
theorem lw_r1 : ∀ q ∈ lw_privs_1, lw_okq q := List.forall_mem_cons.mpr ⟨lw_p0, List.forall_mem_cons.mpr ⟨lw_p1, List.forall_mem_cons.mpr ⟨lw_p2, List.forall_mem_cons.mpr ⟨lw_p3, List.forall_mem_cons.mpr ⟨lw_p4, List.forall_mem_cons.mpr ⟨lw_p5, List.forall_mem_cons.mpr ⟨lw_p6, List.forall_mem_cons.mpr ⟨lw_p7, List.forall_mem_cons.mpr ⟨lw_p8, List.forall_mem_cons.mpr ⟨lw_p9, List.forall_mem_cons.mpr ⟨lw_p10, List.forall_mem_cons.mpr ⟨lw_p11, List.forall_mem_cons.mpr ⟨lw_p12, List.forall_mem_cons.mpr ⟨lw_p13, List.forall_mem_cons.mpr ⟨lw_p14, List.forall_mem_cons.mpr ⟨lw_p15, fun _ h => absurd h List.not_mem_nil⟩⟩⟩⟩⟩⟩⟩⟩⟩⟩⟩⟩⟩⟩⟩⟩
theorem lw_p16 : lw_okq (⟨"SceneShotsModel", "findBest", "()Z"⟩, 23) := ⟨⟨by decide +kernel, by decide +kernel⟩, List.mem_of_getElem? (i := 613) (by decide +kernel), List.mem_of_getElem? (i := 792) (by decide +kernel), List.mem_of_getElem? (i := 793) (by decide +kernel)⟩
theorem lw_p17 : lw_okq (⟨"SceneShotsModel", "findWay", "(I)Z"⟩, 23) := ⟨⟨by decide +kernel, by decide +kernel⟩, List.mem_of_getElem? (i := 613) (by decide +kernel), List.mem_of_getElem? (i := 799) (by decide +kernel), List.mem_of_getElem? (i := 800) (by decide +kernel)⟩
theorem lw_p18 : lw_okq (⟨"SceneShotsModel", "findCuts", "(I)V"⟩, 23) := ⟨⟨by decide +kernel, by decide +kernel⟩, List.mem_of_getElem? (i := 613) (by decide +kernel), List.mem_of_getElem? (i := 803) (by decide +kernel), List.mem_of_getElem? (i := 804) (by decide +kernel)⟩
theorem lw_p19 : lw_okq (⟨"SceneShotsModel", "mayFollow", "(III)Z"⟩, 23) := ⟨⟨by decide +kernel, by decide +kernel⟩, List.mem_of_getElem? (i := 613) (by decide +kernel), List.mem_of_getElem? (i := 807) (by decide +kernel), List.mem_of_getElem? (i := 808) (by decide +kernel)⟩
theorem lw_p20 : lw_okq (⟨"SceneShotsModel", "canCut", "(II)Z"⟩, 23) := ⟨⟨by decide +kernel, by decide +kernel⟩, List.mem_of_getElem? (i := 613) (by decide +kernel), List.mem_of_getElem? (i := 811) (by decide +kernel), List.mem_of_getElem? (i := 812) (by decide +kernel)⟩
theorem lw_p21 : lw_okq (⟨"SceneShotsModel", "areNear", "(II)Z"⟩, 23) := ⟨⟨by decide +kernel, by decide +kernel⟩, List.mem_of_getElem? (i := 613) (by decide +kernel), List.mem_of_getElem? (i := 815) (by decide +kernel), List.mem_of_getElem? (i := 816) (by decide +kernel)⟩
theorem lw_p22 : lw_okq (⟨"SceneShotsModel", "wayOf", "(II)I"⟩, 23) := ⟨⟨by decide +kernel, by decide +kernel⟩, List.mem_of_getElem? (i := 613) (by decide +kernel), List.mem_of_getElem? (i := 819) (by decide +kernel), List.mem_of_getElem? (i := 820) (by decide +kernel)⟩
theorem lw_p23 : lw_okq (⟨"SceneShotsModel", "sideOf", "(I)I"⟩, 23) := ⟨⟨by decide +kernel, by decide +kernel⟩, List.mem_of_getElem? (i := 613) (by decide +kernel), List.mem_of_getElem? (i := 823) (by decide +kernel), List.mem_of_getElem? (i := 824) (by decide +kernel)⟩
theorem lw_p24 : lw_okq (⟨"SceneShotsModel", "isReaction", "(II)Z"⟩, 23) := ⟨⟨by decide +kernel, by decide +kernel⟩, List.mem_of_getElem? (i := 613) (by decide +kernel), List.mem_of_getElem? (i := 827) (by decide +kernel), List.mem_of_getElem? (i := 828) (by decide +kernel)⟩
theorem lw_p25 : lw_okq (⟨"SceneShotsModel", "isBefore", "()Z"⟩, 23) := ⟨⟨by decide +kernel, by decide +kernel⟩, List.mem_of_getElem? (i := 613) (by decide +kernel), List.mem_of_getElem? (i := 831) (by decide +kernel), List.mem_of_getElem? (i := 832) (by decide +kernel)⟩
theorem lw_p26 : lw_okq (⟨"SceneShotsModel", "coversOf", "(I)I"⟩, 23) := ⟨⟨by decide +kernel, by decide +kernel⟩, List.mem_of_getElem? (i := 613) (by decide +kernel), List.mem_of_getElem? (i := 843) (by decide +kernel), List.mem_of_getElem? (i := 844) (by decide +kernel)⟩
theorem lw_p27 : lw_okq (⟨"SceneShotsModel", "cutsOf", "(I)I"⟩, 23) := ⟨⟨by decide +kernel, by decide +kernel⟩, List.mem_of_getElem? (i := 613) (by decide +kernel), List.mem_of_getElem? (i := 852) (by decide +kernel), List.mem_of_getElem? (i := 853) (by decide +kernel)⟩
theorem lw_p28 : lw_okq (⟨"SceneShotsModel", "dearOf", "(I)F"⟩, 23) := ⟨⟨by decide +kernel, by decide +kernel⟩, List.mem_of_getElem? (i := 613) (by decide +kernel), List.mem_of_getElem? (i := 872) (by decide +kernel), List.mem_of_getElem? (i := 873) (by decide +kernel)⟩
theorem lw_p29 : lw_okq (⟨"SceneShotsModel", "isSo", "(I)Z"⟩, 23) := ⟨⟨by decide +kernel, by decide +kernel⟩, List.mem_of_getElem? (i := 613) (by decide +kernel), List.mem_of_getElem? (i := 894) (by decide +kernel), List.mem_of_getElem? (i := 895) (by decide +kernel)⟩
def lw_privs_2 : List (MethodName × Nat) := [(⟨"SceneShotsModel", "findBest", "()Z"⟩, 23), (⟨"SceneShotsModel", "findWay", "(I)Z"⟩, 23), (⟨"SceneShotsModel", "findCuts", "(I)V"⟩, 23), (⟨"SceneShotsModel", "mayFollow", "(III)Z"⟩, 23), (⟨"SceneShotsModel", "canCut", "(II)Z"⟩, 23), (⟨"SceneShotsModel", "areNear", "(II)Z"⟩, 23), (⟨"SceneShotsModel", "wayOf", "(II)I"⟩, 23), (⟨"SceneShotsModel", "sideOf", "(I)I"⟩, 23), (⟨"SceneShotsModel", "isReaction", "(II)Z"⟩, 23), (⟨"SceneShotsModel", "isBefore", "()Z"⟩, 23), (⟨"SceneShotsModel", "coversOf", "(I)I"⟩, 23), (⟨"SceneShotsModel", "cutsOf", "(I)I"⟩, 23), (⟨"SceneShotsModel", "dearOf", "(I)F"⟩, 23), (⟨"SceneShotsModel", "isSo", "(I)Z"⟩, 23)]
theorem lw_r2 : ∀ q ∈ lw_privs_2, lw_okq q := List.forall_mem_cons.mpr ⟨lw_p16, List.forall_mem_cons.mpr ⟨lw_p17, List.forall_mem_cons.mpr ⟨lw_p18, List.forall_mem_cons.mpr ⟨lw_p19, List.forall_mem_cons.mpr ⟨lw_p20, List.forall_mem_cons.mpr ⟨lw_p21, List.forall_mem_cons.mpr ⟨lw_p22, List.forall_mem_cons.mpr ⟨lw_p23, List.forall_mem_cons.mpr ⟨lw_p24, List.forall_mem_cons.mpr ⟨lw_p25, List.forall_mem_cons.mpr ⟨lw_p26, List.forall_mem_cons.mpr ⟨lw_p27, List.forall_mem_cons.mpr ⟨lw_p28, List.forall_mem_cons.mpr ⟨lw_p29, fun _ h => absurd h List.not_mem_nil⟩⟩⟩⟩⟩⟩⟩⟩⟩⟩⟩⟩⟩⟩
def lw_privs : List (MethodName × Nat) := lw_privs_1 ++ (lw_privs_2)
def lw_tbl : List Cond := k2_sels lw_privs ++ tables_1
theorem lw_privs_ok : ∀ q ∈ lw_privs, lw_okq q := by
  show ∀ q ∈ lw_privs_1 ++ (lw_privs_2), lw_okq q
  exact List.forall_mem_append.mpr ⟨lw_r1, lw_r2⟩
/-- the streams that the claim lets the run draw from -/
abbrev lw_cs : List Choice := [Jvm.Choice.named "NaN.bits"]
theorem lw_bits : nanBits ∈ lw_cs := by first | decide | exact List.mem_cons_self | simp [lw_cs, nanBits]

/-! ===== BEGIN new T[n][m]: the outer array a place, the inner ones among the pooled ===== -/
/-- f, but v at every address of l -/
def vr_up {α : Type} (f : Nat → α) (l : List Nat) (v : α) : Nat → α := fun a => if a ∈ l then v else f a
theorem vr_up_in {α : Type} {f : Nat → α} {l : List Nat} {v : α} {a : Nat} (h : a ∈ l) : vr_up f l v a = v := if_pos h
theorem vr_up_ne {α : Type} {f : Nat → α} {l : List Nat} {v : α} {a : Nat} (h : a ∉ l) : vr_up f l v a = f a := if_neg h
theorem vr_rows {L l : List Nat} {f : Nat → va_E} {e : va_E} (h : ∀ a, a ∈ l → a ∉ L) : va_pl L f ++ l.map (fun a => (a, e)) = va_pl (L ++ l) (vr_up f l e) := by
  unfold va_pl
  rw [List.map_append]
  congr 1
  · apply List.map_congr_left
    intro a ha
    rw [vr_up_ne (fun q => h a q ha)]
  · apply List.map_congr_left
    intro a ha
    rw [vr_up_in ha]
theorem vr_lay {X rows : va_W} {x : Nat × va_E} {pl : va_W} {D : va_G} {cl : List vw_C} {H : Heap} (hP : va_P D cl (((X ++ pl) ++ [x]) ++ rows) H) : va_P D cl ((X ++ [x]) ++ (pl ++ rows)) H := by
  rw [List.append_assoc (X ++ pl)] at hP
  have h := va_P.swap hP
  rw [← List.append_assoc X] at h
  have h2 := va_P.swap h
  rw [List.append_assoc (X ++ [x])] at h2
  exact h2
theorem vr_layD {X rows : va_W} {x : Nat × va_E} {pl : va_W} {A : Nat → Prop} (hD : va_D A (((X ++ pl) ++ [x]) ++ rows)) : va_D A ((X ++ [x]) ++ (pl ++ rows)) := by
  rw [List.append_assoc (X ++ pl)] at hD
  have h := va_D.swap hD
  rw [← List.append_assoc X] at h
  have h2 := va_D.swap h
  rw [List.append_assoc (X ++ [x])] at h2
  exact h2
theorem vr_outer (c : ClassId) (N h0 : Nat) : ∀ i : Nat, Jvm.Free.Multi.outerC c N h0 i = arrV c N (fun j => va_rf (if j < i then some (h0 + 1 + j) else none))
  | 0 => by
    show ({ cls := c, slots := Array.replicate N .null, vm := .none } : Cell) = _
    rw [arrV_new]
    refine congrArg (arrV c N) (funext fun j => ?_)
    simp [va_rf]
  | i + 1 => by
    show (Jvm.Free.Multi.outerC c N h0 i).setSlot i (.ref (h0 + 1 + i)) = _
    rw [vr_outer c N h0 i, arrV_store]
    refine congrArg (arrV c N) (funext fun j => ?_)
    by_cases e : j = i
    · subst e
      simp [updV, va_rf]
    · by_cases h : j < i
      · simp [updV, e, h, Nat.lt_succ_of_lt h]
      · simp [updV, e, h, show ¬ j < i + 1 by omega]
section VGM
variable {p : Program} {l : Launch} {e : Env} {R : Room} {s : State} {m : MethodId} {args : Array Value} {below : List Frame} {meth : Method} {c : Code} {H : Heap} {locs : List Loc} {cells slots : Nat} {Q : State → Prop}
variable {cc : ByteArray} {pc : Nat} {ls : Array Slot} {rest : List Value} {D : va_G} {cl : List vw_C} {A : Nat → Prop} {a : Nat} {tys : List (ClassId × FieldType)} {ws : va_W} {H0 : Heap}
theorem va_mna {X : va_W} {L : List Nat} {f : Nat → va_E} {cc : ByteArray} (hexec : p.tables.exec = Jvm.exec) (hb : c.code = cc) {own : String} {index : Nat} {ty : FieldType} {cy : ClassId} (hown : s.vm.findClass own = some m.cls) (hclink : (Cond.classLink own index ("[" ++ (FieldType.array ty).toString)).before args s = true) (hover : (Cond.arrayOver (.array ty)).before args s = true) (harr : (Cond.arrayClass ty).before args s = true) (hcy : s.vm.findClass (FieldType.array ty).toString = some cy)
    (hK : va_K D cl tys s) (hP : va_P D cl (X ++ va_pl L f) H) (hD : va_D A (X ++ va_pl L f)) (hS : va_S A H0 H locs) (hA : ∀ q, H0.size ≤ q → A q) {n k : Int32} {N' K' : Nat} {z : vp_A} (hn : ¬ n < 0) (hk : ¬ k < 0) (hN : n.toNatClampNeg = N') (hM : k.toNatClampNeg = K')
    (hb1 : N' * 4 ≤ 536870912) (hb2 : K' * componentBytes ty ≤ 536870912) (hb3 : K' ≤ 536870912) (hdf : fits ty (defaultValue ty) = true) (hdd : (defaultValue ty).isDefault = true) (hcells : cells + (1 + N') ≤ R.cells) (hslots : slots + (N' + N' * K') ≤ R.slots) (hz : ∀ c : ClassId, Jvm.Free.Multi.innerC c K' (defaultValue ty) = vp_cell c z) (hdg : decode cc pc = .ok (.multianewarray index 2, 4))
    (kk : ∀ (q : Nat) (r : Nat → Nat) (cA : ClassId) (H1 : Heap), (∀ i j : Nat, i < N' → j < N' → r i = r j → i = j) → (∀ i : Nat, i < N' → r i ∉ L) → va_K D cl (tys ++ [(cA, .array ty)]) s →
      va_P D cl ((X ++ [(q, .inl (cA, N', .inr (.inr (.inr (.inr (fun i => if i < N' then some (r i) else none))))))]) ++ va_pl (L ++ (List.range N').map r) (vr_up f ((List.range N').map r) (.inl (cy, z)))) H1 → va_D A ((X ++ [(q, .inl (cA, N', .inr (.inr (.inr (.inr (fun i => if i < N' then some (r i) else none))))))]) ++ va_pl (L ++ (List.range N').map r) (vr_up f ((List.range N').map r) (.inl (cy, z)))) → va_S A H0 H1 locs →
      W p l e R s m args below meth c H1 locs (cells + 1 + N') (slots + N' + N' * K') Q (F0 m (pc + 4) ls (.ref q :: rest))) : W p l e R s m args below meth c H locs cells slots Q (F0 m pc ls (.int k :: .int n :: rest)) := by
  subst hN
  subst hM
  intro T hT Xs
  obtain ⟨vm₁, cA, comp, -, fA, fC, hO, -, X', step⟩ := Xs.multianewarray2F hexec hown hclink hover harr (g := F0 m pc ls (.int k :: .int n :: rest)) rfl (by rw [hb]; exact hdg) rfl hn hk hb1 hb2 hb3 hdf hdd hcells hslots
  have ec : some cy = some comp := hcy.symm.trans fC
  cases ec
  generalize hF : Jvm.Free.Multi.fill (T.setVm vm₁) cA cy n.toNatClampNeg k.toNatClampNeg (defaultValue ty) n.toNatClampNeg = F at X' step
  have hTh : (T.setVm vm₁).heap = H := hT
  obtain ⟨f1, f2, -, -⟩ := Jvm.Free.Multi.fill_facts (T.setVm vm₁) cA cy n.toNatClampNeg k.toNatClampNeg (defaultValue ty) n.toNatClampNeg
  rw [hF, hTh] at f1 f2
  have hold : ∀ x : Nat, x < H.size → F.heap[x]? = H[x]? := fun x hx => by
    have := Jvm.Free.Multi.fill_old (T.setVm vm₁) cA cy n.toNatClampNeg k.toNatClampNeg (defaultValue ty) (a := x) (by rw [hTh]; exact hx) n.toNatClampNeg
    rw [hF, hTh] at this
    exact this
  have hrow : ∀ j : Nat, j < n.toNatClampNeg → F.heap[H.size + 1 + j]? = some (vp_cell cy z) := fun j hj => by
    have := Jvm.Free.Multi.fill_inner (T.setVm vm₁) cA cy n.toNatClampNeg k.toNatClampNeg (defaultValue ty) n.toNatClampNeg j hj
    rw [hF, hTh, hz] at this
    exact this
  have hout : Jvm.Free.Multi.outerC cA n.toNatClampNeg H.size n.toNatClampNeg = vp_cell cA (n.toNatClampNeg, .inr (.inr (.inr (.inr (fun i => if i < n.toNatClampNeg then some (H.size + 1 + i) else none))))) := by
    rw [vp_cell_q]
    exact vr_outer cA n.toNatClampNeg H.size n.toNatClampNeg
  rw [hout] at f2
  have hlt : ∀ a, a ∈ L → a < H.size := fun a ha => by
    obtain ⟨k9, hk9⟩ := va_pl_get (X := X) (f := f) ha
    exact (hP k9 _ hk9).lt
  have hnl : ∀ i : Nat, i < n.toNatClampNeg → H.size + 1 + i ∉ L := fun i _ h => by
    have := hlt _ h
    omega
  have hnm : ∀ a, a ∈ (List.range n.toNatClampNeg).map (fun i => H.size + 1 + i) → a ∉ L := fun a ha h => by
    obtain ⟨i, -, rfl⟩ := List.mem_map.mp ha
    have := hlt _ h
    omega
  have hP0 : va_P D cl (X ++ va_pl L f) F.heap := hP.kept (fun k9 x hx => hold x.1 ((hP k9 x hx).lt))
  have hP1 : va_P D cl ((X ++ va_pl L f) ++ [(H.size, .inl (cA, n.toNatClampNeg, .inr (.inr (.inr (.inr (fun i => if i < n.toNatClampNeg then some (H.size + 1 + i) else none))))))]) F.heap := hP0.app (fun k9 x hx => by
    have h0 : k9 < 1 := (List.getElem?_eq_some_iff.mp hx).1
    rw [show k9 = 0 by omega] at hx
    cases hx
    exact f2)
  have hP2 : va_P D cl (((X ++ va_pl L f) ++ [(H.size, .inl (cA, n.toNatClampNeg, .inr (.inr (.inr (.inr (fun i => if i < n.toNatClampNeg then some (H.size + 1 + i) else none))))))]) ++ ((List.range n.toNatClampNeg).map (fun i => H.size + 1 + i)).map (fun a => (a, .inl (cy, z)))) F.heap := hP1.app (fun k9 x hx => by
    obtain ⟨a, ha, rfl⟩ := List.mem_map.mp (List.mem_of_getElem? hx)
    obtain ⟨i, hi, rfl⟩ := List.mem_map.mp ha
    exact hrow i (List.mem_range.mp hi))
  have hD2 : va_D A (((X ++ va_pl L f) ++ [(H.size, .inl (cA, n.toNatClampNeg, .inr (.inr (.inr (.inr (fun i => if i < n.toNatClampNeg then some (H.size + 1 + i) else none))))))]) ++ ((List.range n.toNatClampNeg).map (fun i => H.size + 1 + i)).map (fun a => (a, .inl (cy, z)))) := by
    have hD1 := hD.push (e := .inl (cA, n.toNatClampNeg, .inr (.inr (.inr (.inr (fun i => if i < n.toNatClampNeg then some (H.size + 1 + i) else none)))))) hP rfl (hA _ hS.1)
    generalize hW1 : (X ++ va_pl L f) ++ [(H.size, .inl (cA, n.toNatClampNeg, .inr (.inr (.inr (.inr (fun i => if i < n.toNatClampNeg then some (H.size + 1 + i) else none))))))] = W1 at hD1 hP1 ⊢
    have hle : ∀ (k9 : Nat) (x : Nat × va_E), W1[k9]? = some x → x.1 ≤ H.size := fun k9 x hx => by
      rw [← hW1] at hx
      by_cases hl : k9 < (X ++ va_pl L f).length
      · rw [List.getElem?_append_left hl] at hx
        exact Nat.le_of_lt ((hP k9 x hx).lt)
      · rw [List.getElem?_append_right (by omega)] at hx
        have h0 : k9 - (X ++ va_pl L f).length < 1 := (List.getElem?_eq_some_iff.mp hx).1
        rw [show k9 - (X ++ va_pl L f).length = 0 by omega] at hx
        cases hx
        exact Nat.le_refl _
    have hr : ∀ (k9 : Nat) (x : Nat × va_E), (((List.range n.toNatClampNeg).map (fun i => H.size + 1 + i)).map (fun a => ((a, .inl (cy, z)) : Nat × va_E)))[k9]? = some x → x.1 = H.size + 1 + k9 := fun k9 x hx => by
      rw [List.getElem?_map, List.getElem?_map] at hx
      by_cases h9 : k9 < n.toNatClampNeg
      · rw [List.getElem?_range h9] at hx
        cases hx
        rfl
      · have hn0 : (List.range n.toNatClampNeg)[k9]? = none := List.getElem?_eq_none (by rw [List.length_range]; omega)
        rw [hn0] at hx
        cases hx
    refine ⟨fun i j x y hi hj hxy => ?_, fun k9 x hx => ?_⟩
    · by_cases h1 : i < W1.length <;> by_cases h2 : j < W1.length
      · rw [List.getElem?_append_left h1] at hi
        rw [List.getElem?_append_left h2] at hj
        exact hD1.1 i j x y hi hj hxy
      · rw [List.getElem?_append_left h1] at hi
        rw [List.getElem?_append_right (by omega)] at hj
        have := hle _ _ hi
        have := hr _ _ hj
        omega
      · rw [List.getElem?_append_right (by omega)] at hi
        rw [List.getElem?_append_left h2] at hj
        have := hle _ _ hj
        have := hr _ _ hi
        omega
      · rw [List.getElem?_append_right (by omega)] at hi hj
        have := hr _ _ hi
        have := hr _ _ hj
        omega
    · by_cases h1 : k9 < W1.length
      · rw [List.getElem?_append_left h1] at hx
        exact hD1.2 k9 x hx
      · rw [List.getElem?_append_right (by omega)] at hx
        have := hr _ _ hx
        exact hA _ (by have := hS.1; omega)
  have hAr : ArrOfT s cA (.array ty) := fun N9 z9 => by
    obtain ⟨-, k9, hk9, cm9, hkk9⟩ := (hO 0 0 0).1
    exact ⟨(fun q hq => by cases hq), k9, hk9, cm9, hkk9⟩
  have hK2 : va_K D cl (tys ++ [(cA, .array ty)]) s := ⟨hK.1, fun k9 x hx => by
    by_cases hl : k9 < tys.length
    · rw [List.getElem?_append_left hl] at hx
      exact hK.2 k9 x hx
    · rw [List.getElem?_append_right (by omega)] at hx
      have h0 : k9 - tys.length < 1 := (List.getElem?_eq_some_iff.mp hx).1
      rw [show k9 - tys.length = 0 by omega] at hx
      cases hx
      exact ⟨hAr, fA⟩⟩
  obtain ⟨t, a1, b1⟩ := kk H.size (fun i => H.size + 1 + i) cA F.heap (fun i j _ _ h => by have h9 : H.size + 1 + i = H.size + 1 + j := h; omega) hnl hK2 (by rw [← vr_rows hnm]; exact vr_lay hP2) (by rw [← vr_rows hnm]; exact vr_layD hD2) ⟨by rw [f1]; have := hS.1; omega, fun x h1 h2 => (hold x (Nat.lt_of_lt_of_le h1 hS.1)).trans (hS.2.1 x h1 h2), hS.2.2⟩ F rfl X'
  refine ⟨t, step t ?_, b1⟩
  have e : T.heap.size = H.size := by rw [hT]
  rw [e]
  exact a1
end VGM
/-! ===== END ===== -/
def RX0 : String := "SceneShots$Past"
def TX0 : u_T := fun k => match k with
  | 0 => ("SceneShots$Past", "scenes", "[LSceneShots$Scene;", true)
  | 1 => ("SceneShots$Past", "known", "I", false)
  | _ => ("SceneShots$Past", "next", "I", false)
def tyX0 : Nat → FieldType := fun k => match k with
  | 0 => .array (.object "SceneShots$Scene")
  | 1 => .int
  | _ => .int
theorem nmX0 : ∀ a, a < 3 → ∀ b, b < 3 → a ≠ b → (TX0 a).2.1 ≠ (TX0 b).2.1 := by decide +kernel
theorem tyX0_ok : ∀ k, k < 3 → parseFieldDescriptor (TX0 k).2.2.1 = some (tyX0 k) := by decide +kernel
abbrev cX0_init : ByteArray := prog_2_method_1_code
def yX0_init : MethodName := ⟨RX0, "<init>", "()V"⟩
abbrev cX0_remember : ByteArray := prog_2_method_2_code
def yX0_remember : MethodName := ⟨RX0, "remember", "(LSceneShots$Scene;)V"⟩
abbrev cX0_restore : ByteArray := prog_2_method_3_code
def yX0_restore : MethodName := ⟨RX0, "restore", "(LSceneShots$Scene;)Z"⟩
def RX1 : String := "SceneShots$Planner"
def TX1 : u_T := fun k => match k with
  | 0 => ("SceneShots$Planner", "coverers", "[I", true)
  | 1 => ("SceneShots$Planner", "followers", "[[I", true)
  | 2 => ("SceneShots$Planner", "cutsBehind", "[[I", true)
  | 3 => ("SceneShots$Planner", "partners", "[I", true)
  | 4 => ("SceneShots$Planner", "prices", "[I", true)
  | 5 => ("SceneShots$Planner", "trial", "[I", true)
  | 6 => ("SceneShots$Planner", "bestEdit", "[I", true)
  | 7 => ("SceneShots$Planner", "lines", "I", false)
  | 8 => ("SceneShots$Planner", "shots", "I", false)
  | 9 => ("SceneShots$Planner", "bestSize", "I", false)
  | _ => ("SceneShots$Planner", "bestCuts", "I", false)
def tyX1 : Nat → FieldType := fun k => match k with
  | 0 => .array .int
  | 1 => .array (.array .int)
  | 2 => .array (.array .int)
  | 3 => .array .int
  | 4 => .array .int
  | 5 => .array .int
  | 6 => .array .int
  | 7 => .int
  | 8 => .int
  | 9 => .int
  | _ => .int
theorem nmX1 : ∀ a, a < 11 → ∀ b, b < 11 → a ≠ b → (TX1 a).2.1 ≠ (TX1 b).2.1 := by decide +kernel
theorem tyX1_ok : ∀ k, k < 11 → parseFieldDescriptor (TX1 k).2.2.1 = some (tyX1 k) := by decide +kernel
abbrev cX1_init : ByteArray := prog_3_method_1_code
def yX1_init : MethodName := ⟨RX1, "<init>", "()V"⟩
abbrev cX1_study : ByteArray := prog_3_method_2_code
def yX1_study : MethodName := ⟨RX1, "study", "(LSceneShots$Scene;)V"⟩
abbrev cX1_followersOf : ByteArray := prog_3_method_3_code
def yX1_followersOf : MethodName := ⟨RX1, "followersOf", "(LSceneShots$Scene;II)I"⟩
abbrev cX1_hasWholeEdit : ByteArray := prog_3_method_4_code
def yX1_hasWholeEdit : MethodName := ⟨RX1, "hasWholeEdit", "(I)Z"⟩
abbrev cX1_findBest : ByteArray := prog_3_method_5_code
def yX1_findBest : MethodName := ⟨RX1, "findBest", "()Z"⟩
abbrev cX1_planTrial : ByteArray := prog_3_method_6_code
def yX1_planTrial : MethodName := ⟨RX1, "planTrial", "(I)I"⟩
abbrev cX1_fewestBehind : ByteArray := prog_3_method_7_code
def yX1_fewestBehind : MethodName := ⟨RX1, "fewestBehind", "(III)I"⟩
abbrev cX1_cheapestOf : ByteArray := prog_3_method_8_code
def yX1_cheapestOf : MethodName := ⟨RX1, "cheapestOf", "(III)I"⟩
abbrev cX1_cutsFrom : ByteArray := prog_3_method_9_code
def yX1_cutsFrom : MethodName := ⟨RX1, "cutsFrom", "(III)I"⟩
abbrev cX1_trialIsLower : ByteArray := prog_3_method_10_code
def yX1_trialIsLower : MethodName := ⟨RX1, "trialIsLower", "()Z"⟩
abbrev cX1_takeTrial : ByteArray := prog_3_method_11_code
def yX1_takeTrial : MethodName := ⟨RX1, "takeTrial", "(II)V"⟩
abbrev cX1_differsFrom : ByteArray := prog_3_method_12_code
def yX1_differsFrom : MethodName := ⟨RX1, "differsFrom", "(LSceneShots$Scene;)I"⟩
abbrev cX1_giveBestTo : ByteArray := prog_3_method_13_code
def yX1_giveBestTo : MethodName := ⟨RX1, "giveBestTo", "(LSceneShots$Scene;)V"⟩
abbrev cX1_dear : ByteArray := prog_3_method_14_code
def yX1_dear : MethodName := ⟨RX1, "dear", "(I)F"⟩
abbrev cX1_cheapestSet : ByteArray := prog_3_method_15_code
def yX1_cheapestSet : MethodName := ⟨RX1, "cheapestSet", "()I"⟩
abbrev cX1_neededShots : ByteArray := prog_3_method_16_code
def yX1_neededShots : MethodName := ⟨RX1, "neededShots", "()I"⟩
def RX2 : String := "SceneShots$Reader"
def TX2 : u_T := fun k => match k with
  | 0 => ("SceneShots$Reader", "text", "[I", true)
  | 1 => ("SceneShots$Reader", "length", "I", false)
  | 2 => ("SceneShots$Reader", "kind", "I", false)
  | 3 => ("SceneShots$Reader", "start", "I", false)
  | 4 => ("SceneShots$Reader", "end", "I", false)
  | 5 => ("SceneShots$Reader", "playersTold", "Z", false)
  | _ => ("SceneShots$Reader", "linesTold", "Z", false)
def tyX2 : Nat → FieldType := fun k => match k with
  | 0 => .array .int
  | 1 => .int
  | 2 => .int
  | 3 => .int
  | 4 => .int
  | 5 => .boolean
  | _ => .boolean
theorem nmX2 : ∀ a, a < 7 → ∀ b, b < 7 → a ≠ b → (TX2 a).2.1 ≠ (TX2 b).2.1 := by decide +kernel
theorem tyX2_ok : ∀ k, k < 7 → parseFieldDescriptor (TX2 k).2.2.1 = some (tyX2 k) := by decide +kernel
abbrev cX2_init : ByteArray := prog_4_method_1_code
def yX2_init : MethodName := ⟨RX2, "<init>", "()V"⟩
abbrev cX2_takeLetter : ByteArray := prog_4_method_2_code
def yX2_takeLetter : MethodName := ⟨RX2, "takeLetter", "(I)Z"⟩
abbrev cX2_dropText : ByteArray := prog_4_method_3_code
def yX2_dropText : MethodName := ⟨RX2, "dropText", "()I"⟩
abbrev cX2_readInto : ByteArray := prog_4_method_4_code
def yX2_readInto : MethodName := ⟨RX2, "readInto", "(LSceneShots$Scene;)I"⟩
abbrev cX2_readItem : ByteArray := prog_4_method_5_code
def yX2_readItem : MethodName := ⟨RX2, "readItem", "(LSceneShots$Scene;)Z"⟩
abbrev cX2_readPlayers : ByteArray := prog_4_method_6_code
def yX2_readPlayers : MethodName := ⟨RX2, "readPlayers", "(LSceneShots$Scene;)Z"⟩
abbrev cX2_readLines : ByteArray := prog_4_method_7_code
def yX2_readLines : MethodName := ⟨RX2, "readLines", "(LSceneShots$Scene;)Z"⟩
abbrev cX2_readShot : ByteArray := prog_4_method_8_code
def yX2_readShot : MethodName := ⟨RX2, "readShot", "(LSceneShots$Scene;)Z"⟩
abbrev cX2_stepToStop : ByteArray := prog_4_method_9_code
def yX2_stepToStop : MethodName := ⟨RX2, "stepToStop", "()Z"⟩
abbrev cX2_stepToFigure : ByteArray := prog_4_method_10_code
def yX2_stepToFigure : MethodName := ⟨RX2, "stepToFigure", "(II)Z"⟩
abbrev cX2_step : ByteArray := prog_4_method_11_code
def yX2_step : MethodName := ⟨RX2, "step", "()V"⟩
abbrev cX2_kindAt : ByteArray := prog_4_method_12_code
def yX2_kindAt : MethodName := ⟨RX2, "kindAt", "(I)I"⟩
abbrev cX2_isWord : ByteArray := prog_4_method_13_code
def yX2_isWord : MethodName := ⟨RX2, "isWord", "(Ljava/lang/String;)Z"⟩
def RX3 : String := "SceneShots$Scene"
def TX3 : u_T := fun k => match k with
  | 0 => ("SceneShots$Scene", "places", "[I", true)
  | 1 => ("SceneShots$Scene", "speakers", "[I", true)
  | 2 => ("SceneShots$Scene", "chosen", "[I", true)
  | 3 => ("SceneShots$Scene", "facts", "[I", true)
  | 4 => ("SceneShots$Scene", "lines", "I", false)
  | _ => ("SceneShots$Scene", "shots", "I", false)
def tyX3 : Nat → FieldType := fun k => match k with
  | 0 => .array .int
  | 1 => .array .int
  | 2 => .array .int
  | 3 => .array .int
  | 4 => .int
  | _ => .int
theorem nmX3 : ∀ a, a < 6 → ∀ b, b < 6 → a ≠ b → (TX3 a).2.1 ≠ (TX3 b).2.1 := by decide +kernel
theorem tyX3_ok : ∀ k, k < 6 → parseFieldDescriptor (TX3 k).2.2.1 = some (tyX3 k) := by decide +kernel
abbrev cX3_init : ByteArray := prog_5_method_1_code
def yX3_init : MethodName := ⟨RX3, "<init>", "()V"⟩
abbrev cX3_startAnew : ByteArray := prog_5_method_2_code
def yX3_startAnew : MethodName := ⟨RX3, "startAnew", "()V"⟩
abbrev cX3_become : ByteArray := prog_5_method_3_code
def yX3_become : MethodName := ⟨RX3, "become", "(LSceneShots$Scene;)V"⟩
abbrev cX3_hasLine : ByteArray := prog_5_method_4_code
def yX3_hasLine : MethodName := ⟨RX3, "hasLine", "(I)Z"⟩
abbrev cX3_hasShot : ByteArray := prog_5_method_5_code
def yX3_hasShot : MethodName := ⟨RX3, "hasShot", "(I)Z"⟩
abbrev cX3_fact : ByteArray := prog_5_method_6_code
def yX3_fact : MethodName := ⟨RX3, "fact", "(II)I"⟩
abbrev cX3_dropShot : ByteArray := prog_5_method_7_code
def yX3_dropShot : MethodName := ⟨RX3, "dropShot", "(I)V"⟩
abbrev cX3_loseShotInEdit : ByteArray := prog_5_method_8_code
def yX3_loseShotInEdit : MethodName := ⟨RX3, "loseShotInEdit", "(I)I"⟩
abbrev cX3_covers : ByteArray := prog_5_method_9_code
def yX3_covers : MethodName := ⟨RX3, "covers", "(II)Z"⟩
abbrev cX3_coverers : ByteArray := prog_5_method_10_code
def yX3_coverers : MethodName := ⟨RX3, "coverers", "(I)I"⟩
abbrev cX3_side : ByteArray := prog_5_method_11_code
def yX3_side : MethodName := ⟨RX3, "side", "(I)I"⟩
abbrev cX3_wayX : ByteArray := prog_5_method_12_code
def yX3_wayX : MethodName := ⟨RX3, "wayX", "(I)I"⟩
abbrev cX3_wayY : ByteArray := prog_5_method_13_code
def yX3_wayY : MethodName := ⟨RX3, "wayY", "(I)I"⟩
abbrev cX3_near : ByteArray := prog_5_method_14_code
def yX3_near : MethodName := ⟨RX3, "near", "(II)Z"⟩
abbrev cX3_tooLike : ByteArray := prog_5_method_15_code
def yX3_tooLike : MethodName := ⟨RX3, "tooLike", "(II)Z"⟩
abbrev cX3_canBeCut : ByteArray := prog_5_method_16_code
def yX3_canBeCut : MethodName := ⟨RX3, "canBeCut", "(II)Z"⟩
abbrev cX3_partners : ByteArray := prog_5_method_17_code
def yX3_partners : MethodName := ⟨RX3, "partners", "(I)I"⟩
abbrev cX3_isReaction : ByteArray := prog_5_method_18_code
def yX3_isReaction : MethodName := ⟨RX3, "isReaction", "(II)Z"⟩
abbrev cX3_linesWithoutShot : ByteArray := prog_5_method_19_code
def yX3_linesWithoutShot : MethodName := ⟨RX3, "linesWithoutShot", "()I"⟩
abbrev cX3_isCutAhead : ByteArray := prog_5_method_20_code
def yX3_isCutAhead : MethodName := ⟨RX3, "isCutAhead", "(I)Z"⟩
abbrev cX3_wrongCuts : ByteArray := prog_5_method_21_code
def yX3_wrongCuts : MethodName := ⟨RX3, "wrongCuts", "()I"⟩
abbrev cX3_doubleReactions : ByteArray := prog_5_method_22_code
def yX3_doubleReactions : MethodName := ⟨RX3, "doubleReactions", "()I"⟩
abbrev cX3_cuts : ByteArray := prog_5_method_23_code
def yX3_cuts : MethodName := ⟨RX3, "cuts", "()I"⟩
abbrev cX3_shotsUsed : ByteArray := prog_5_method_24_code
def yX3_shotsUsed : MethodName := ⟨RX3, "shotsUsed", "()I"⟩
def RX4 : String := "SceneShots$Sights"
def TX4 : u_T := fun k => match k with
  | 0 => ("SceneShots$Sights", "whats", "[I", true)
  | 1 => ("SceneShots$Sights", "numbers", "[I", true)
  | _ => ("SceneShots$Sights", "seen", "I", false)
def tyX4 : Nat → FieldType := fun k => match k with
  | 0 => .array .int
  | 1 => .array .int
  | _ => .int
theorem nmX4 : ∀ a, a < 3 → ∀ b, b < 3 → a ≠ b → (TX4 a).2.1 ≠ (TX4 b).2.1 := by decide +kernel
theorem tyX4_ok : ∀ k, k < 3 → parseFieldDescriptor (TX4 k).2.2.1 = some (tyX4 k) := by decide +kernel
abbrev cX4_init : ByteArray := prog_6_method_1_code
def yX4_init : MethodName := ⟨RX4, "<init>", "()V"⟩
abbrev cX4_note : ByteArray := prog_6_method_2_code
def yX4_note : MethodName := ⟨RX4, "note", "(II)Z"⟩
abbrev cX4_dropAll : ByteArray := prog_6_method_3_code
def yX4_dropAll : MethodName := ⟨RX4, "dropAll", "()I"⟩
abbrev cX4_fitting : ByteArray := prog_6_method_4_code
def yX4_fitting : MethodName := ⟨RX4, "fitting", "(LSceneShots$Scene;)I"⟩
abbrev cX4_fits : ByteArray := prog_6_method_5_code
def yX4_fits : MethodName := ⟨RX4, "fits", "(LSceneShots$Scene;I)Z"⟩
abbrev cX4_look : ByteArray := prog_6_method_6_code
def yX4_look : MethodName := ⟨RX4, "look", "(LSceneShots$Scene;II)I"⟩
def RX5 : String := "SceneShots"
def TX5 : u_T := fun k => match k with
  | 0 => ("SceneShots", "scene", "LSceneShots$Scene;", true)
  | 1 => ("SceneShots", "draft", "LSceneShots$Scene;", true)
  | 2 => ("SceneShots", "past", "LSceneShots$Past;", true)
  | 3 => ("SceneShots", "reader", "LSceneShots$Reader;", true)
  | 4 => ("SceneShots", "planner", "LSceneShots$Planner;", true)
  | 5 => ("SceneShots", "sights", "LSceneShots$Sights;", true)
  | 6 => ("SceneShots", "images", "[LSceneShots$Scene;", true)
  | _ => ("SceneShots", "kept", "[Z", true)
def tyX5 : Nat → FieldType := fun k => match k with
  | 0 => .object "SceneShots$Scene"
  | 1 => .object "SceneShots$Scene"
  | 2 => .object "SceneShots$Past"
  | 3 => .object "SceneShots$Reader"
  | 4 => .object "SceneShots$Planner"
  | 5 => .object "SceneShots$Sights"
  | 6 => .array (.object "SceneShots$Scene")
  | _ => .array .boolean
theorem nmX5 : ∀ a, a < 8 → ∀ b, b < 8 → a ≠ b → (TX5 a).2.1 ≠ (TX5 b).2.1 := by decide +kernel
theorem tyX5_ok : ∀ k, k < 8 → parseFieldDescriptor (TX5 k).2.2.1 = some (tyX5 k) := by decide +kernel
abbrev cX5_init : ByteArray := prog_1_method_1_code
def yX5_init : MethodName := ⟨RX5, "<init>", "()V"⟩
abbrev cX5_type : ByteArray := prog_1_method_2_code
def yX5_type : MethodName := ⟨RX5, "type", "(I)I"⟩
abbrev cX5_clear : ByteArray := prog_1_method_3_code
def yX5_clear : MethodName := ⟨RX5, "clear", "()I"⟩
abbrev cX5_tells : ByteArray := prog_1_method_4_code
def yX5_tells : MethodName := ⟨RX5, "tells", "()I"⟩
abbrev cX5_puts : ByteArray := prog_1_method_5_code
def yX5_puts : MethodName := ⟨RX5, "puts", "(II)I"⟩
abbrev cX5_takes : ByteArray := prog_1_method_6_code
def yX5_takes : MethodName := ⟨RX5, "takes", "(I)I"⟩
abbrev cX5_strikes : ByteArray := prog_1_method_7_code
def yX5_strikes : MethodName := ⟨RX5, "strikes", "(I)I"⟩
abbrev cX5_makes : ByteArray := prog_1_method_8_code
def yX5_makes : MethodName := ⟨RX5, "makes", "()I"⟩
abbrev cX5_undo : ByteArray := prog_1_method_9_code
def yX5_undo : MethodName := ⟨RX5, "undo", "()I"⟩
abbrev cX5_line : ByteArray := prog_1_method_10_code
def yX5_line : MethodName := ⟨RX5, "line", "(II)I"⟩
abbrev cX5_shot : ByteArray := prog_1_method_11_code
def yX5_shot : MethodName := ⟨RX5, "shot", "(II)I"⟩
abbrev cX5_player : ByteArray := prog_1_method_12_code
def yX5_player : MethodName := ⟨RX5, "player", "(II)I"⟩
abbrev cX5_edit : ByteArray := prog_1_method_13_code
def yX5_edit : MethodName := ⟨RX5, "edit", "(I)I"⟩
abbrev cX5_best : ByteArray := prog_1_method_14_code
def yX5_best : MethodName := ⟨RX5, "best", "(I)I"⟩
abbrev cX5_cheapest : ByteArray := prog_1_method_15_code
def yX5_cheapest : MethodName := ⟨RX5, "cheapest", "(I)I"⟩
abbrev cX5_needed : ByteArray := prog_1_method_16_code
def yX5_needed : MethodName := ⟨RX5, "needed", "()I"⟩
abbrev cX5_sees : ByteArray := prog_1_method_17_code
def yX5_sees : MethodName := ⟨RX5, "sees", "(II)I"⟩
abbrev cX5_forget : ByteArray := prog_1_method_18_code
def yX5_forget : MethodName := ⟨RX5, "forget", "()I"⟩
abbrev cX5_which : ByteArray := prog_1_method_19_code
def yX5_which : MethodName := ⟨RX5, "which", "(I)I"⟩
abbrev cX5_keep : ByteArray := prog_1_method_20_code
def yX5_keep : MethodName := ⟨RX5, "keep", "(I)I"⟩
abbrev cX5_back : ByteArray := prog_1_method_21_code
def yX5_back : MethodName := ⟨RX5, "back", "(I)I"⟩
abbrev cX5_count : ByteArray := prog_1_method_22_code
def yX5_count : MethodName := ⟨RX5, "count", "(I)I"⟩
def RX6 : String := "SceneShotsModel"
def TX6 : u_T := fun k => match k with
  | 0 => ("SceneShotsModel", "now", "[I", true)
  | 1 => ("SceneShotsModel", "read", "[I", true)
  | 2 => ("SceneShotsModel", "past", "[I", true)
  | 3 => ("SceneShotsModel", "deeds", "I", false)
  | 4 => ("SceneShotsModel", "images", "[I", true)
  | 5 => ("SceneShotsModel", "isKept", "[Z", true)
  | 6 => ("SceneShotsModel", "text", "[I", true)
  | 7 => ("SceneShotsModel", "letters", "I", false)
  | 8 => ("SceneShotsModel", "at", "I", false)
  | 9 => ("SceneShotsModel", "token", "I", false)
  | 10 => ("SceneShotsModel", "tokenAt", "I", false)
  | 11 => ("SceneShotsModel", "seenWhat", "[I", true)
  | 12 => ("SceneShotsModel", "seenIs", "[I", true)
  | 13 => ("SceneShotsModel", "seen", "I", false)
  | 14 => ("SceneShotsModel", "arePlayersTold", "Z", false)
  | 15 => ("SceneShotsModel", "areLinesTold", "Z", false)
  | 16 => ("SceneShotsModel", "items", "I", false)
  | 17 => ("SceneShotsModel", "cuts", "[I", true)
  | 18 => ("SceneShotsModel", "way", "[I", true)
  | 19 => ("SceneShotsModel", "wayCuts", "I", false)
  | 20 => ("SceneShotsModel", "best", "[I", true)
  | 21 => ("SceneShotsModel", "bestCuts", "I", false)
  | _ => ("SceneShotsModel", "bestShots", "I", false)
def tyX6 : Nat → FieldType := fun k => match k with
  | 0 => .array .int
  | 1 => .array .int
  | 2 => .array .int
  | 3 => .int
  | 4 => .array .int
  | 5 => .array .boolean
  | 6 => .array .int
  | 7 => .int
  | 8 => .int
  | 9 => .int
  | 10 => .int
  | 11 => .array .int
  | 12 => .array .int
  | 13 => .int
  | 14 => .boolean
  | 15 => .boolean
  | 16 => .int
  | 17 => .array .int
  | 18 => .array .int
  | 19 => .int
  | 20 => .array .int
  | 21 => .int
  | _ => .int
theorem nmX6 : ∀ a, a < 23 → ∀ b, b < 23 → a ≠ b → (TX6 a).2.1 ≠ (TX6 b).2.1 := by decide +kernel
theorem tyX6_ok : ∀ k, k < 23 → parseFieldDescriptor (TX6 k).2.2.1 = some (tyX6 k) := by decide +kernel
abbrev cX6_init : ByteArray := prog_8_method_1_code
def yX6_init : MethodName := ⟨RX6, "<init>", "()V"⟩
abbrev cX6_in : ByteArray := prog_8_method_2_code
def yX6_in : MethodName := ⟨RX6, "in", "(III)Z"⟩
abbrev cX6_bring : ByteArray := prog_8_method_3_code
def yX6_bring : MethodName := ⟨RX6, "bring", "([II[II)V"⟩
abbrev cX6_note : ByteArray := prog_8_method_4_code
def yX6_note : MethodName := ⟨RX6, "note", "()V"⟩
abbrev cX6_beginRead : ByteArray := prog_8_method_5_code
def yX6_beginRead : MethodName := ⟨RX6, "beginRead", "()V"⟩
abbrev cX6_isLetter : ByteArray := prog_8_method_6_code
def yX6_isLetter : MethodName := ⟨RX6, "isLetter", "(I)Z"⟩
abbrev cX6_isFigure : ByteArray := prog_8_method_7_code
def yX6_isFigure : MethodName := ⟨RX6, "isFigure", "(I)Z"⟩
abbrev cX6_wordFrom : ByteArray := prog_8_method_8_code
def yX6_wordFrom : MethodName := ⟨RX6, "wordFrom", "(II)J"⟩
abbrev cX6_next : ByteArray := prog_8_method_9_code
def yX6_next : MethodName := ⟨RX6, "next", "()V"⟩
abbrev cX6_figure : ByteArray := prog_8_method_10_code
def yX6_figure : MethodName := ⟨RX6, "figure", "(II)I"⟩
abbrev cX6_isEnded : ByteArray := prog_8_method_11_code
def yX6_isEnded : MethodName := ⟨RX6, "isEnded", "()Z"⟩
abbrev cX6_readPlayers : ByteArray := prog_8_method_12_code
def yX6_readPlayers : MethodName := ⟨RX6, "readPlayers", "()Z"⟩
abbrev cX6_readLines : ByteArray := prog_8_method_13_code
def yX6_readLines : MethodName := ⟨RX6, "readLines", "()Z"⟩
abbrev cX6_readShot : ByteArray := prog_8_method_14_code
def yX6_readShot : MethodName := ⟨RX6, "readShot", "()Z"⟩
abbrev cX6_readText : ByteArray := prog_8_method_15_code
def yX6_readText : MethodName := ⟨RX6, "readText", "()I"⟩
abbrev cX6_type : ByteArray := prog_8_method_16_code
def yX6_type : MethodName := ⟨RX6, "type", "(I)I"⟩
abbrev cX6_clear : ByteArray := prog_8_method_17_code
def yX6_clear : MethodName := ⟨RX6, "clear", "()I"⟩
abbrev cX6_tells : ByteArray := prog_8_method_18_code
def yX6_tells : MethodName := ⟨RX6, "tells", "()I"⟩
abbrev cX6_of : ByteArray := prog_8_method_19_code
def yX6_of : MethodName := ⟨RX6, "of", "(II)I"⟩
abbrev cX6_isLine : ByteArray := prog_8_method_20_code
def yX6_isLine : MethodName := ⟨RX6, "isLine", "(I)Z"⟩
abbrev cX6_isShot : ByteArray := prog_8_method_21_code
def yX6_isShot : MethodName := ⟨RX6, "isShot", "(I)Z"⟩
abbrev cX6_sideOf : ByteArray := prog_8_method_22_code
def yX6_sideOf : MethodName := ⟨RX6, "sideOf", "(I)I"⟩
abbrev cX6_wayOf : ByteArray := prog_8_method_23_code
def yX6_wayOf : MethodName := ⟨RX6, "wayOf", "(II)I"⟩
abbrev cX6_areNear : ByteArray := prog_8_method_24_code
def yX6_areNear : MethodName := ⟨RX6, "areNear", "(II)Z"⟩
abbrev cX6_canCut : ByteArray := prog_8_method_25_code
def yX6_canCut : MethodName := ⟨RX6, "canCut", "(II)Z"⟩
abbrev cX6_covers : ByteArray := prog_8_method_26_code
def yX6_covers : MethodName := ⟨RX6, "covers", "(II)Z"⟩
abbrev cX6_isReaction : ByteArray := prog_8_method_27_code
def yX6_isReaction : MethodName := ⟨RX6, "isReaction", "(II)Z"⟩
abbrev cX6_mayFollow : ByteArray := prog_8_method_28_code
def yX6_mayFollow : MethodName := ⟨RX6, "mayFollow", "(III)Z"⟩
abbrev cX6_findCuts : ByteArray := prog_8_method_29_code
def yX6_findCuts : MethodName := ⟨RX6, "findCuts", "(I)V"⟩
abbrev cX6_findWay : ByteArray := prog_8_method_30_code
def yX6_findWay : MethodName := ⟨RX6, "findWay", "(I)Z"⟩
abbrev cX6_ones : ByteArray := prog_8_method_31_code
def yX6_ones : MethodName := ⟨RX6, "ones", "(I)I"⟩
abbrev cX6_isBefore : ByteArray := prog_8_method_32_code
def yX6_isBefore : MethodName := ⟨RX6, "isBefore", "()Z"⟩
abbrev cX6_findBest : ByteArray := prog_8_method_33_code
def yX6_findBest : MethodName := ⟨RX6, "findBest", "()Z"⟩
abbrev cX6_puts : ByteArray := prog_8_method_34_code
def yX6_puts : MethodName := ⟨RX6, "puts", "(II)I"⟩
abbrev cX6_takes : ByteArray := prog_8_method_35_code
def yX6_takes : MethodName := ⟨RX6, "takes", "(I)I"⟩
abbrev cX6_strikes : ByteArray := prog_8_method_36_code
def yX6_strikes : MethodName := ⟨RX6, "strikes", "(I)I"⟩
abbrev cX6_makes : ByteArray := prog_8_method_37_code
def yX6_makes : MethodName := ⟨RX6, "makes", "()I"⟩
abbrev cX6_undo : ByteArray := prog_8_method_38_code
def yX6_undo : MethodName := ⟨RX6, "undo", "()I"⟩
abbrev cX6_coversOf : ByteArray := prog_8_method_39_code
def yX6_coversOf : MethodName := ⟨RX6, "coversOf", "(I)I"⟩
abbrev cX6_line : ByteArray := prog_8_method_40_code
def yX6_line : MethodName := ⟨RX6, "line", "(II)I"⟩
abbrev cX6_cutsOf : ByteArray := prog_8_method_41_code
def yX6_cutsOf : MethodName := ⟨RX6, "cutsOf", "(I)I"⟩
abbrev cX6_shot : ByteArray := prog_8_method_42_code
def yX6_shot : MethodName := ⟨RX6, "shot", "(II)I"⟩
abbrev cX6_player : ByteArray := prog_8_method_43_code
def yX6_player : MethodName := ⟨RX6, "player", "(II)I"⟩
abbrev cX6_edit : ByteArray := prog_8_method_44_code
def yX6_edit : MethodName := ⟨RX6, "edit", "(I)I"⟩
abbrev cX6_best : ByteArray := prog_8_method_45_code
def yX6_best : MethodName := ⟨RX6, "best", "(I)I"⟩
abbrev cX6_dearOf : ByteArray := prog_8_method_46_code
def yX6_dearOf : MethodName := ⟨RX6, "dearOf", "(I)F"⟩
abbrev cX6_cheapest : ByteArray := prog_8_method_47_code
def yX6_cheapest : MethodName := ⟨RX6, "cheapest", "(I)I"⟩
abbrev cX6_needed : ByteArray := prog_8_method_48_code
def yX6_needed : MethodName := ⟨RX6, "needed", "()I"⟩
abbrev cX6_sees : ByteArray := prog_8_method_49_code
def yX6_sees : MethodName := ⟨RX6, "sees", "(II)I"⟩
abbrev cX6_forget : ByteArray := prog_8_method_50_code
def yX6_forget : MethodName := ⟨RX6, "forget", "()I"⟩
abbrev cX6_isSo : ByteArray := prog_8_method_51_code
def yX6_isSo : MethodName := ⟨RX6, "isSo", "(I)Z"⟩
abbrev cX6_which : ByteArray := prog_8_method_52_code
def yX6_which : MethodName := ⟨RX6, "which", "(I)I"⟩
abbrev cX6_keep : ByteArray := prog_8_method_53_code
def yX6_keep : MethodName := ⟨RX6, "keep", "(I)I"⟩
abbrev cX6_back : ByteArray := prog_8_method_54_code
def yX6_back : MethodName := ⟨RX6, "back", "(I)I"⟩
abbrev cX6_count : ByteArray := prog_8_method_55_code
def yX6_count : MethodName := ⟨RX6, "count", "(I)I"⟩
def RJ6 : String := "java/lang/Integer"
def TJ6 : u_T := fun k => match k with
  | _ => ("", "", "", false)
def tyJ6 : Nat → FieldType := fun k => match k with
  | _ => .int
theorem nmJ6 : ∀ a, a < 0 → ∀ b, b < 0 → a ≠ b → (TJ6 a).2.1 ≠ (TJ6 b).2.1 := by decide +kernel
theorem tyJ6_ok : ∀ k, k < 0 → parseFieldDescriptor (TJ6 k).2.2.1 = some (tyJ6 k) := by decide +kernel
abbrev cJ6_numberOfTrailingZeros_0f7a4 : ByteArray := prog_9_method_48_code
def yJ6_numberOfTrailingZeros_0f7a4 : MethodName := ⟨RJ6, "numberOfTrailingZeros", "(I)I"⟩
abbrev cJ6_bitCount_0f7a4 : ByteArray := prog_9_method_49_code
def yJ6_bitCount_0f7a4 : MethodName := ⟨RJ6, "bitCount", "(I)I"⟩
abbrev cJ6_signum_0f7a4 : ByteArray := prog_9_method_56_code
def yJ6_signum_0f7a4 : MethodName := ⟨RJ6, "signum", "(I)I"⟩
def RJ9 : String := "java/lang/Math"
def TJ9 : u_T := fun k => match k with
  | _ => ("", "", "", false)
def tyJ9 : Nat → FieldType := fun k => match k with
  | _ => .int
theorem nmJ9 : ∀ a, a < 0 → ∀ b, b < 0 → a ≠ b → (TJ9 a).2.1 ≠ (TJ9 b).2.1 := by decide +kernel
theorem tyJ9_ok : ∀ k, k < 0 → parseFieldDescriptor (TJ9 k).2.2.1 = some (tyJ9 k) := by decide +kernel
abbrev cJ9_abs_0f7a4 : ByteArray := prog_10_method_59_code
def yJ9_abs_0f7a4 : MethodName := ⟨RJ9, "abs", "(I)I"⟩
abbrev cJ9_min_7cf53 : ByteArray := prog_10_method_69_code
def yJ9_min_7cf53 : MethodName := ⟨RJ9, "min", "(II)I"⟩
def RJ0 : String := "java/lang/String"
def TJ0 : u_T := fun k => match k with
  | _ => ("", "", "", false)
def tyJ0 : Nat → FieldType := fun k => match k with
  | _ => .int
theorem nmJ0 : ∀ a, a < 0 → ∀ b, b < 0 → a ≠ b → (TJ0 a).2.1 ≠ (TJ0 b).2.1 := by decide +kernel
theorem tyJ0_ok : ∀ k, k < 0 → parseFieldDescriptor (TJ0 k).2.2.1 = some (tyJ0 k) := by decide +kernel
abbrev cJ0_length_8abf5 : ByteArray := prog_11_method_54_code
def yJ0_length_8abf5 : MethodName := ⟨RJ0, "length", "()I"⟩
abbrev cJ0_charAt_5068e : ByteArray := prog_11_method_56_code
def yJ0_charAt_5068e : MethodName := ⟨RJ0, "charAt", "(I)C"⟩
abbrev cJ0_coder_7d493 : ByteArray := prog_11_method_152_code
def yJ0_coder_7d493 : MethodName := ⟨RJ0, "coder", "()B"⟩
abbrev cJ0_isLatin1_aae02 : ByteArray := prog_11_method_154_code
def yJ0_isLatin1_aae02 : MethodName := ⟨RJ0, "isLatin1", "()Z"⟩
abbrev cJ0_checkIndex_df160 : ByteArray := prog_11_method_155_code
def yJ0_checkIndex_df160 : MethodName := ⟨RJ0, "checkIndex", "(II)V"⟩
def RJ1 : String := "java/lang/StringLatin1"
def TJ1 : u_T := fun k => match k with
  | _ => ("", "", "", false)
def tyJ1 : Nat → FieldType := fun k => match k with
  | _ => .int
theorem nmJ1 : ∀ a, a < 0 → ∀ b, b < 0 → a ≠ b → (TJ1 a).2.1 ≠ (TJ1 b).2.1 := by decide +kernel
theorem tyJ1_ok : ∀ k, k < 0 → parseFieldDescriptor (TJ1 k).2.2.1 = some (tyJ1 k) := by decide +kernel
abbrev cJ1_charAt_3b067 : ByteArray := prog_12_method_2_code
def yJ1_charAt_3b067 : MethodName := ⟨RJ1, "charAt", "([BI)C"⟩
def RJ2 : String := "java/lang/StringUTF16"
def TJ2 : u_T := fun k => match k with
  | _ => ("", "", "", false)
def tyJ2 : Nat → FieldType := fun k => match k with
  | _ => .int
theorem nmJ2 : ∀ a, a < 0 → ∀ b, b < 0 → a ≠ b → (TJ2 a).2.1 ≠ (TJ2 b).2.1 := by decide +kernel
theorem tyJ2_ok : ∀ k, k < 0 → parseFieldDescriptor (TJ2 k).2.2.1 = some (tyJ2 k) := by decide +kernel
abbrev cJ2_getChar_3b067 : ByteArray := prog_13_method_5_code
def yJ2_getChar_3b067 : MethodName := ⟨RJ2, "getChar", "([BI)C"⟩
abbrev cJ2_length_9d52b : ByteArray := prog_13_method_6_code
def yJ2_length_9d52b : MethodName := ⟨RJ2, "length", "([B)I"⟩
abbrev cJ2_charAt_3b067 : ByteArray := prog_13_method_83_code
def yJ2_charAt_3b067 : MethodName := ⟨RJ2, "charAt", "([BI)C"⟩
abbrev cJ2_checkIndex_2214a : ByteArray := prog_13_method_91_code
def yJ2_checkIndex_2214a : MethodName := ⟨RJ2, "checkIndex", "(I[B)V"⟩
def RJ10 : String := "java/lang/System"
def TJ10 : u_T := fun k => match k with
  | _ => ("", "", "", false)
def tyJ10 : Nat → FieldType := fun k => match k with
  | _ => .int
theorem nmJ10 : ∀ a, a < 0 → ∀ b, b < 0 → a ≠ b → (TJ10 a).2.1 ≠ (TJ10 b).2.1 := by decide +kernel
theorem tyJ10_ok : ∀ k, k < 0 → parseFieldDescriptor (TJ10 k).2.2.1 = some (tyJ10 k) := by decide +kernel
def RJ3 : String := "jdk/internal/util/Preconditions"
def TJ3 : u_T := fun k => match k with
  | _ => ("", "", "", false)
def tyJ3 : Nat → FieldType := fun k => match k with
  | _ => .int
theorem nmJ3 : ∀ a, a < 0 → ∀ b, b < 0 → a ≠ b → (TJ3 a).2.1 ≠ (TJ3 b).2.1 := by decide +kernel
theorem tyJ3_ok : ∀ k, k < 0 → parseFieldDescriptor (TJ3 k).2.2.1 = some (tyJ3 k) := by decide +kernel
abbrev cJ3_checkIndex_8e157 : ByteArray := prog_15_method_11_code
def yJ3_checkIndex_8e157 : MethodName := ⟨RJ3, "checkIndex", "(IILjava/util/function/BiFunction;)I"⟩
def RL : String := "SceneShotsLaw"
abbrev cL_law : ByteArray := code
def yL_law : MethodName := ⟨RL, "law", "([I)Z"⟩
abbrev vwCl : List vw_C := [(RX0, TX0, 3), (RX1, TX1, 11), (RX2, TX2, 7), (RX3, TX3, 6), (RX4, TX4, 3), (RX5, TX5, 8), (RX6, TX6, 23)]
end
section
/-! ===== an abstract machine over places: AW is the kit's W, said of places instead of addresses ===== -/
abbrev AH : Type := List va_E
abbrev Glob : Type := Launch × State × (Nat → Nat) × va_G × (Nat → ClassId) × Nat × (Nat → Int32)
def g_l (g : Glob) : Launch := g.1
def g_s (g : Glob) : State := g.2.1
def g_a (g : Glob) : Nat → Nat := g.2.2.1
def g_D (g : Glob) : va_G := g.2.2.2.1
def g_c (g : Glob) : Nat → ClassId := g.2.2.2.2.1
def g_L (g : Glob) : Nat := g.2.2.2.2.2.1
def g_x (g : Glob) : Nat → Int32 := g.2.2.2.2.2.2
def g_A (g : Glob) : Nat → Prop := fun q => (g_s g).heap.size ≤ q
/-- the words that stay -/
def lw_g : List Cond := lw_tbl.filter goodWord
/-- an instruction: its place, length, itself, three numbers and an int that say what it links -/
abbrev En : Type := Nat × Nat × Instr × Nat × Nat × Nat × Int32
/-- a method: name, class, bytes, locals, answer, (depth, cells, slots), places of its words, heads of loops, rows, parameters -/
abbrev Mth : Type := MethodName × String × ByteArray × Nat × Option FieldType × (Nat × Nat × Nat) × (Nat × Nat × Nat × Nat) × List Nat × List En × Nat
def m_y (M : Mth) : MethodName := M.1
def m_own (M : Mth) : String := M.2.1
def m_cc (M : Mth) : ByteArray := M.2.2.1
def m_nL (M : Mth) : Nat := M.2.2.2.1
def m_ret (M : Mth) : Option FieldType := M.2.2.2.2.1
def m_dep (M : Mth) : Nat := M.2.2.2.2.2.1.1
def m_mc (M : Mth) : Nat := M.2.2.2.2.2.1.2.1
def m_ms (M : Mth) : Nat := M.2.2.2.2.2.1.2.2
def m_wx (M : Mth) : Nat × Nat × Nat × Nat := M.2.2.2.2.2.2.1
def m_stops (M : Mth) : List Nat := M.2.2.2.2.2.2.2.1
def m_code (M : Mth) : List En := M.2.2.2.2.2.2.2.2.1
def m_np (M : Mth) : Nat := M.2.2.2.2.2.2.2.2.2
def m_room (M : Mth) : Room := { frames := m_dep M, cells := m_mc M, slots := m_ms M, locals := 40 * m_dep M }
def m_ws (M : Mth) : List Cond := Cond.code (m_y M) (m_cc M) (m_nL M) (m_ret M) :: lw_g
/-- places below 1000 are cells of the world, others cells that never change -/
def trR (g : Glob) (al : Nat → Nat) (k : Nat) : Nat := if k < 1000 then al k else g_a g k
def trV (g : Glob) (al : Nat → Nat) (v : Value) : Value := match v with
  | .ref k => .ref (trR g al k)
  | w => w
def trC (g : Glob) (al : Nat → Nat) (n : Nat) (c : (Nat → Int32) ⊕ (Nat → Int64) ⊕ (Nat → UInt32) ⊕ (Nat → UInt64) ⊕ (Nat → Option Nat)) : (Nat → Int32) ⊕ (Nat → Int64) ⊕ (Nat → UInt32) ⊕ (Nat → UInt64) ⊕ (Nat → Option Nat) := match c with
  | .inr (.inr (.inr (.inr f))) => .inr (.inr (.inr (.inr (fun i => if i < n then (f i).map (trR g al) else none))))
  | c => c
def trE (g : Glob) (al : Nat → Nat) (e : va_E) : va_E := match e with
  | .inl (t, n, c) => .inl (g_c g t, n, trC g al n c)
  | .inr (ci, fs) => .inr (ci, fs.map (trV g al))
def trW (g : Glob) (al : Nat → Nat) (h : AH) : va_W := h.mapIdx (fun k e => (al k, trE g al e))
abbrev tys (g : Glob) : List (ClassId × FieldType) := [(g_c g 0, .int), (g_c g 1, .boolean), (g_c g 2, .object "SceneShots$Scene"), (g_c g 3, .array .int)]
/-- rows that never change -/
def roI (g : Glob) (k : Nat) : Option (Nat × (Nat → Int32)) := match k with
  | 1003 => some (7, fun j => [0, 0, 0, 1, 0, 0, 1].getD j 0)
  | 1004 => some (7, fun j => [9, 9, 2, 5, 7, 7, 9].getD j 0)
  | 1005 => some (g_L g, g_x g)
  | _ => none
def roB (k : Nat) : Option (Nat × (Nat → Int32)) := match k with
  | 1010 => some (7, fun j => [112, 108, 97, 121, 101, 114, 115].getD j 0)
  | 1011 => some (5, fun j => [108, 105, 110, 101, 115].getD j 0)
  | 1012 => some (4, fun j => [115, 104, 111, 116].getD j 0)
  | _ => none
/-- the literals' own fields -/
def roF (k b : Nat) : Option Value := match k, b with
  | 1000, 0 => some (.ref 1010)
  | 1001, 0 => some (.ref 1011)
  | 1002, 0 => some (.ref 1012)
  | 1000, 1 => some (.int 0)
  | 1001, 1 => some (.int 0)
  | 1002, 1 => some (.int 0)
  | _, _ => none
def g_O (g : Glob) (k : Nat) (j : Nat) : Prop := va_O "java/lang/String" (g_a g k) (g_A g) (g_s g) (g_s g).heap ∧ va_OF "java/lang/String" "value" "[B" (.ref (g_a g j)) (g_a g k) (g_A g) (g_s g) (g_s g).heap ∧ va_OF "java/lang/String" "coder" "B" (.int 0) (g_a g k) (g_A g) (g_s g) (g_s g).heap
def g_Z (g : Glob) (C n d : String) (v : Value) : Prop := va_Z C n d v (g_A g) (g_s g) (g_s g).heap
/-- what is known of the start -/
def GOK (g : Glob) : Prop :=
  va_K (g_D g) vwCl (tys g) (g_s g) ∧
  (∀ (k N : Nat) (f : Nat → Int32), roI g k = some (N, f) → va_T .int (g_a g k) N (fun j => .int (f j)) (g_A g) (g_s g) (g_s g).heap) ∧
  (∀ (k N : Nat) (f : Nat → Int32), roB k = some (N, f) → va_T .byte (g_a g k) N (fun j => .int (f j)) (g_A g) (g_s g) (g_s g).heap) ∧
  (g_O g 1000 1010 ∧ g_O g 1001 1011 ∧ g_O g 1002 1012) ∧
  (g_Z g "SceneShots" "LOWEST" "[I" (.ref (g_a g 1003)) ∧ g_Z g "SceneShots" "HIGHEST" "[I" (.ref (g_a g 1004))) ∧
  g_Z g "java/lang/String" "COMPACT_STRINGS" "Z" (.int 1) ∧
  (g_Z g "jdk/internal/util/Preconditions" "SIOOBE_FORMATTER" "Ljava/util/function/BiFunction;" .null ∨ g_Z g "jdk/internal/util/Preconditions" "SIOOBE_FORMATTER" "Ljava/util/function/BiFunction;" (.ref (g_a g 1020))) ∧
  (vk_R "SceneShots$Reader" 47 "players" (g_a g 1000) (g_s g) ∧ vk_R "SceneShots$Reader" 56 "lines" (g_a g 1001) (g_s g) ∧ vk_R "SceneShots$Reader" 61 "shot" (g_a g 1002) (g_s g) ∧ va_AO "SceneShots$Scene" (g_s g) ∧ (Cond.arrayOver (.array .int)).before #[] (g_s g) = true) ∧
  (∀ w ∈ lw_tbl, w.onTables = true → va_Nw w (g_s g))
/-- a state of a method's start that stands behind the start -/
def Bh (g : Glob) (s : State) : Prop := GOK g ∧ (g_s g).heap.size ≤ s.heap.size ∧ (∀ q : Nat, q < (g_s g).heap.size → s.heap[q]? = (g_s g).heap[q]?) ∧ (g_s g).WarmedH s.vm
def Cx (g : Glob) (M : Mth) (p : Program) (s : State) (m : MethodId) (args : Array Value) (meth : Method) (c : Code) : Prop :=
  p.tables.exec = Jvm.exec ∧ c.code = m_cc M ∧ meth.sig.returnType = m_ret M ∧ c.maxLocals = m_nL M ∧ s.vm.findClass (m_own M) = some m.cls ∧ (∀ w ∈ lw_g, w.before args s = true) ∧ meth.locks = false ∧ meth.name = (m_y M).name ∧ Bh g s
/-- the locals hold what is listed -/
def LH (g : Glob) (al : Nat → Nat) (lsA : Array Slot) (nL : Nat) (ls : List (Option Value)) : Prop := lsA.size = nL ∧ lv_wf lsA ∧ ∀ (k : Nat) (v : Value), ls[k]? = some (some v) → lsA[k]? = some (.val (trV g al v))
def Wd (g : Glob) (al : Nat → Nat) (h : AH) (s : State) (H : Heap) (locs : List Loc) : Prop := va_P (g_D g) vwCl (trW g al h) H ∧ va_D (g_A g) (trW g al h) ∧ va_S (g_A g) s.heap H locs
def agr (M : Mth) (al0 : Nat → Nat) (n0 : Nat) (al : Nat → Nat) (n : Nat) : Prop := (m_mc M = 0 → al = al0) ∧ (∀ k, k < n0 → al k = al0 k) ∧ n0 ≤ n
/-- a method's end -/
def QC (g : Glob) (M : Mth) (Post : Option Value → AH → Prop) (al0 : Nat → Nat) (n0 : Nat) : Array Value → State → Outcome → State → Prop := fun _ st oc t =>
  ∃ (rv : Option Value) (h' : AH) (al' : Nat → Nat), oc = .returned (rv.map (trV g al')) ∧ Post rv h' ∧ agr M al0 n0 al' h'.length ∧ va_P (g_D g) vwCl (trW g al' h') t.heap ∧ va_D (g_A g) (trW g al' h') ∧ va_F (g_A g) st t
/-- the machine, at pc with these locals, stack and cells, comes to the method's end with Post -/
def AW (g : Glob) (M : Mth) (Post : Option Value → AH → Prop) (cl sl pc : Nat) (ls : List (Option Value)) (st : List Value) (h : AH) : Prop :=
  ∀ (p : Program) (e : Env) (s : State) (m : MethodId) (args : Array Value) (below : List Frame) (meth : Method) (c : Code) (H : Heap) (locs : List Loc) (lsA : Array Slot) (al0 : Nat → Nat) (n0 : Nat) (al : Nat → Nat),
    Cx g M p s m args meth c → agr M al0 n0 al h.length → Wd g al h s H locs → LH g al lsA (m_nL M) ls →
    W p (g_l g) e (m_room M) s m args below meth c H locs cl sl (MQ below (QC g M Post al0 n0) args s (m_mc M) (m_ms M) (g_A g)) (F0 m pc lsA (st.map (trV g al)))
def PU (g : Glob) (al : Nat → Nat) (h : AH) (U : State) : Prop := Bh g U ∧ va_P (g_D g) vwCl (trW g al h) U.heap ∧ va_D (g_A g) (trW g al h)
/-- a method's contract -/
def AC (g : Glob) (M : Mth) (args : List Value) (h : AH) (Post : Option Value → AH → Prop) : Prop :=
  ∀ al : Nat → Nat, Met (g_l g) (m_y M) (m_ws M) (m_room M) (va_Pc (args.map (trV g al)) (PU g al h)) (QC g M Post al h.length) (m_mc M) (m_ms M) (g_A g)
/-! helpers -/
def popN : Nat → List Value → List Value → Option (List Value × List Value)
  | 0, acc, st => some (acc, st)
  | n + 1, acc, v :: st => popN n (v :: acc) st
  | _ + 1, _, [] => none
theorem popN_eq : ∀ (n : Nat) (acc st As r : List Value), popN n acc st = some (As, r) → acc.reverse ++ st = As.reverse ++ r ∧ As.length = n + acc.length := by
  intro n
  induction n with
  | zero =>
    intro acc st As r h
    have h1 : some (acc, st) = some (As, r) := h
    cases h1
    exact ⟨rfl, by omega⟩
  | succ n ih =>
    intro acc st As r h
    cases st with
    | nil => cases h
    | cons v st =>
      obtain ⟨h1, h2⟩ := ih (v :: acc) st As r h
      refine ⟨?_, by rw [h2, List.length_cons]; omega⟩
      rw [← h1]
      simp
def hat (h : AH) (k : Nat) : Option va_E := match Nat.blt k 1000 with
  | true => h[k]?
  | false => none
def lget (ls : List (Option Value)) (k : Nat) : Option Value := match ls[k]? with
  | some o => o
  | none => none
def c2at (ls : List (Option Value)) (i : Nat) : Bool := match i with
  | 0 => false
  | j + 1 => match lget ls j with
    | some v => v.category == 2
    | none => false
def dropTo (t : Nat) : List En → List En
  | [] => []
  | e :: r => match Nat.beq e.1 t with
    | true => e :: r
    | false => dropTo t r
def okV (n : Nat) (v : Value) : Bool := match v with
  | .ref k => Nat.blt k n || Nat.ble 1000 k
  | _ => true
def okS (n : Nat) (st : List Value) : Bool := st.all (okV n)
def okL (n : Nat) (ls : List (Option Value)) : Bool := ls.all (fun o => match o with
  | some v => okV n v
  | none => true)
def okR (n : Nat) (o : Option Nat) : Bool := match o with
  | some k => Nat.blt k n || Nat.ble 1000 k
  | none => true
def okE (n : Nat) (e : va_E) : Bool := match e with
  | .inl (_, m, .inr (.inr (.inr (.inr f)))) => (List.range m).all (fun i => okR n (f i))
  | .inl _ => true
  | .inr (_, fs) => okS n fs
def okH (h : AH) : Bool := Nat.ble h.length 900 && h.all (okE h.length)
theorem lget_some {ls : List (Option Value)} {k : Nat} {v : Value} (h : lget ls k = some v) : ls[k]? = some (some v) := by
  unfold lget at h
  cases hk : ls[k]? with
  | none => rw [hk] at h; cases h
  | some o => rw [hk] at h; rw [show o = some v from h]
theorem hat_some {h : AH} {k : Nat} {e : va_E} (he : hat h k = some e) : k < 1000 ∧ h[k]? = some e := by
  unfold hat at he
  cases hb : Nat.blt k 1000 with
  | false => rw [hb] at he; cases he
  | true => rw [hb] at he; exact ⟨Nat.le_of_ble_eq_true hb, he⟩
theorem trR_lt {g : Glob} {al : Nat → Nat} {k : Nat} (h : k < 1000) : trR g al k = al k := if_pos h
theorem trR_ge {g : Glob} {al : Nat → Nat} {k : Nat} (h : ¬ k < 1000) : trR g al k = g_a g k := if_neg h
theorem trW_get {g : Glob} {al : Nat → Nat} {h : AH} {k : Nat} {e : va_E} (hk : h[k]? = some e) : (trW g al h)[k]? = some (al k, trE g al e) := by
  unfold trW
  rw [List.getElem?_mapIdx, hk]
  rfl
theorem trW_set {g : Glob} {al : Nat → Nat} {h : AH} {k : Nat} {e : va_E} : trW g al (h.set k e) = (trW g al h).set k (al k, trE g al e) := by
  apply List.ext_getElem?
  intro j
  unfold trW
  rw [List.getElem?_mapIdx, List.getElem?_set, List.getElem?_set, List.getElem?_mapIdx, List.length_mapIdx]
  by_cases hj : k = j
  · subst hj
    by_cases hl : k < h.length
    · simp [hl]
    · simp [hl]
  · simp [hj]
theorem trV_cat (g : Glob) (al : Nat → Nat) (v : Value) : (trV g al v).category = v.category := by cases v <;> rfl
def lvl (g : Glob) (al : Nat → Nat) (ls : List (Option Value)) : List (Nat × Value) := ls.zipIdx.filterMap (fun q => q.1.map (fun v => (q.2, trV g al v)))
theorem lvl_mem {g : Glob} {al : Nat → Nat} {ls : List (Option Value)} {k : Nat} {v : Value} (h : ls[k]? = some (some v)) : (k, trV g al v) ∈ lvl g al ls := by
  unfold lvl
  refine List.mem_filterMap.mpr ⟨(some v, k), ?_, rfl⟩
  exact List.mem_zipIdx_iff_getElem?.mpr h
theorem lvl_of {g : Glob} {al : Nat → Nat} {ls : List (Option Value)} {q : Nat × Value} (h : q ∈ lvl g al ls) : ∃ v, ls[q.1]? = some (some v) ∧ q.2 = trV g al v := by
  unfold lvl at h
  obtain ⟨⟨o, k⟩, h1, h2⟩ := List.mem_filterMap.mp h
  cases o with
  | none => cases h2
  | some v =>
    cases h2
    exact ⟨v, List.mem_zipIdx_iff_getElem?.mp h1, rfl⟩
theorem LH.has {g : Glob} {al : Nat → Nat} {lsA : Array Slot} {nL : Nat} {ls : List (Option Value)} (h : LH g al lsA nL ls) : lv_has lsA nL (lvl g al ls) := by
  refine ⟨h.1, h.2.1, fun q hq => ?_⟩
  obtain ⟨v, h1, h2⟩ := lvl_of hq
  rw [h2]
  exact h.2.2 _ _ h1
theorem LH.at {g : Glob} {al : Nat → Nat} {lsA : Array Slot} {nL : Nat} {ls : List (Option Value)} {k : Nat} {v : Value} (h : LH g al lsA nL ls) (hk : lget ls k = some v) : lsA[k]? = some (.val (trV g al v)) := h.2.2 _ _ (lget_some hk)
theorem c2at_cat {ls : List (Option Value)} {i k : Nat} {w : Value} (h : c2at ls i = false) (hk : k + 1 = i) (hw : ls[k]? = some (some w)) : w.category ≠ 2 := by
  subst hk
  intro hc
  have hg : lget ls k = some w := by unfold lget; rw [hw]
  simp [c2at, hg, hc] at h
/-- behind a store of one slot -/
theorem LH.set1 {g : Glob} {al : Nat → Nat} {ls' : Array Slot} {nL i : Nat} {ls : List (Option Value)} {v : Value} (hc : c2at ls i = false)
    (h : lv_has ls' nL ((i, trV g al v) :: (lvl g al ls).filter (fun q => !(q.1 == i) && !(q.1 + 1 == i && q.2.category == 2)))) : LH g al ls' nL (ls.set i (some v)) := by
  refine ⟨h.1, h.2.1, fun k w hk => ?_⟩
  rw [List.getElem?_set] at hk
  by_cases hi : i = k
  · subst hi
    rw [if_pos rfl] at hk
    split at hk
    · cases hk
      exact h.2.2 (i, trV g al v) List.mem_cons_self
    · cases hk
  · rw [if_neg hi] at hk
    refine h.2.2 (k, trV g al w) (List.mem_cons_of_mem _ (List.mem_filter.mpr ⟨lvl_mem hk, ?_⟩))
    have e1 : (k == i) = false := by simpa using fun z => hi z.symm
    by_cases hk1 : k + 1 = i
    · have hcw := c2at_cat hc hk1 hk
      have e2 : ((trV g al w).category == 2) = false := by rw [trV_cat]; simpa using hcw
      simp [e1, e2]
    · have e2 : (k + 1 == i) = false := by simpa using hk1
      simp [e1, e2]
theorem LH.set2 {g : Glob} {al : Nat → Nat} {ls' : Array Slot} {nL i : Nat} {ls : List (Option Value)} {v : Value} (hc : c2at ls i = false)
    (h : lv_has ls' nL ((i, trV g al v) :: (lvl g al ls).filter (fun q => !(q.1 == i) && (!(q.1 == i + 1) && !(q.1 + 1 == i && q.2.category == 2))))) : LH g al ls' nL ((ls.set i (some v)).set (i + 1) none) := by
  refine ⟨h.1, h.2.1, fun k w hk => ?_⟩
  rw [List.getElem?_set] at hk
  by_cases hj : i + 1 = k
  · rw [if_pos hj] at hk
    split at hk <;> cases hk
  rw [if_neg hj, List.getElem?_set] at hk
  by_cases hi : i = k
  · subst hi
    rw [if_pos rfl] at hk
    split at hk
    · cases hk
      exact h.2.2 (i, trV g al v) List.mem_cons_self
    · cases hk
  · rw [if_neg hi] at hk
    refine h.2.2 (k, trV g al w) (List.mem_cons_of_mem _ (List.mem_filter.mpr ⟨lvl_mem hk, ?_⟩))
    have e1 : (k == i) = false := by simpa using fun z => hi z.symm
    have e3 : (k == i + 1) = false := by simpa using fun z => hj z.symm
    by_cases hk1 : k + 1 = i
    · have hcw := c2at_cat hc hk1 hk
      have e2 : ((trV g al w).category == 2) = false := by rw [trV_cat]; simpa using hcw
      simp [e1, e2, e3]
    · have e2 : (k + 1 == i) = false := by simpa using hk1
      simp [e1, e2, e3]
theorem Bh.K {g : Glob} {s : State} (h : Bh g s) : va_K (g_D g) vwCl (tys g) s := va_K.moved h.2.2.2.alike h.1.1
theorem Bh.ke {g : Glob} {s : State} (h : Bh g s) : ∀ a : Nat, a < (g_s g).heap.size → ¬ g_A g a → s.heap[a]? = (g_s g).heap[a]? := fun a ha _ => h.2.2.1 a ha

theorem aw_iconst {g : Glob} {M : Mth} {Post : Option Value → AH → Prop} {cl sl pc : Nat} {ls : List (Option Value)} {st : List Value} {h : AH} {n : Int} {v : Int32} (hd : decode (m_cc M) pc = .ok (.iconst n, 1)) (hv : Int32.ofInt n = v) (K : AW g M Post cl sl (pc + 1) ls (.int v :: st) h) : AW g M Post cl sl pc ls (st) h := by
  intro p e s m args below meth c H locs lsA al0 n0 al C ha hw hl
  exact lv_iconst C.1 C.2.1 hd hv (K p e s m args below meth c H locs lsA al0 n0 al C ha hw hl)
theorem aw_bipush {g : Glob} {M : Mth} {Post : Option Value → AH → Prop} {cl sl pc : Nat} {ls : List (Option Value)} {st : List Value} {h : AH} {n : Int} {v : Int32} (hd : decode (m_cc M) pc = .ok (.bipush n, 2)) (hv : (Int8.ofInt n).toInt32 = v) (K : AW g M Post cl sl (pc + 2) ls (.int v :: st) h) : AW g M Post cl sl pc ls (st) h := by
  intro p e s m args below meth c H locs lsA al0 n0 al C ha hw hl
  exact lv_bipush C.1 C.2.1 hd hv (K p e s m args below meth c H locs lsA al0 n0 al C ha hw hl)
theorem aw_sipush {g : Glob} {M : Mth} {Post : Option Value → AH → Prop} {cl sl pc : Nat} {ls : List (Option Value)} {st : List Value} {h : AH} {n : Int} {v : Int32} (hd : decode (m_cc M) pc = .ok (.sipush n, 3)) (hv : (Int16.ofInt n).toInt32 = v) (K : AW g M Post cl sl (pc + 3) ls (.int v :: st) h) : AW g M Post cl sl pc ls (st) h := by
  intro p e s m args below meth c H locs lsA al0 n0 al C ha hw hl
  exact lv_sipush C.1 C.2.1 hd hv (K p e s m args below meth c H locs lsA al0 n0 al C ha hw hl)
theorem aw_lconst {g : Glob} {M : Mth} {Post : Option Value → AH → Prop} {cl sl pc : Nat} {ls : List (Option Value)} {st : List Value} {h : AH} {n : Fin 2} {v : Int64} (hd : decode (m_cc M) pc = .ok (.lconst n, 1)) (hv : Int64.ofNat (n : Nat) = v) (K : AW g M Post cl sl (pc + 1) ls (.long v :: st) h) : AW g M Post cl sl pc ls (st) h := by
  intro p e s m args below meth c H locs lsA al0 n0 al C ha hw hl
  exact lv_lconst C.1 C.2.1 hd hv (K p e s m args below meth c H locs lsA al0 n0 al C ha hw hl)
theorem aw_fconst0 {g : Glob} {M : Mth} {Post : Option Value → AH → Prop} {cl sl pc : Nat} {ls : List (Option Value)} {st : List Value} {h : AH}  (hd : decode (m_cc M) pc = .ok (.fconst 0, 1)) (K : AW g M Post cl sl (pc + 1) ls (.float FP.fconst0 :: st) h) : AW g M Post cl sl pc ls (st) h := by
  intro p e s m args below meth c H locs lsA al0 n0 al C ha hw hl
  exact lv_fconst0 C.1 C.2.1 hd (K p e s m args below meth c H locs lsA al0 n0 al C ha hw hl)
theorem aw_ldc {g : Glob} {M : Mth} {Post : Option Value → AH → Prop} {cl sl pc : Nat} {ls : List (Option Value)} {st : List Value} {h : AH} {idx : Nat} {v : Int32} (hd : decode (m_cc M) pc = .ok (.ldc idx, 2)) (hq : Cond.constant (m_own M) idx v ∈ lw_g) (K : AW g M Post cl sl (pc + 2) ls (.int v :: st) h) : AW g M Post cl sl pc ls (st) h := by
  intro p e s m args below meth c H locs lsA al0 n0 al C ha hw hl
  exact lv_ldc C.1 C.2.1 C.2.2.2.2.1 (C.2.2.2.2.2.1 _ hq) hd (K p e s m args below meth c H locs lsA al0 n0 al C ha hw hl)
theorem aw_ldcw {g : Glob} {M : Mth} {Post : Option Value → AH → Prop} {cl sl pc : Nat} {ls : List (Option Value)} {st : List Value} {h : AH} {idx : Nat} {v : Int32} (hd : decode (m_cc M) pc = .ok (.ldc_w idx, 3)) (hq : Cond.constant (m_own M) idx v ∈ lw_g) (K : AW g M Post cl sl (pc + 3) ls (.int v :: st) h) : AW g M Post cl sl pc ls (st) h := by
  intro p e s m args below meth c H locs lsA al0 n0 al C ha hw hl
  exact lv_ldcw C.1 C.2.1 C.2.2.2.2.1 (C.2.2.2.2.2.1 _ hq) hd (K p e s m args below meth c H locs lsA al0 n0 al C ha hw hl)
theorem aw_ldc2 {g : Glob} {M : Mth} {Post : Option Value → AH → Prop} {cl sl pc : Nat} {ls : List (Option Value)} {st : List Value} {h : AH} {idx : Nat} {v : Int64} (hd : decode (m_cc M) pc = .ok (.ldc2_w idx, 3)) (hq : Cond.constantLong (m_own M) idx v ∈ lw_g) (K : AW g M Post cl sl (pc + 3) ls (.long v :: st) h) : AW g M Post cl sl pc ls (st) h := by
  intro p e s m args below meth c H locs lsA al0 n0 al C ha hw hl
  exact lv_ldc2 C.1 C.2.1 C.2.2.2.2.1 (C.2.2.2.2.2.1 _ hq) hd (K p e s m args below meth c H locs lsA al0 n0 al C ha hw hl)
theorem aw_ldcf {g : Glob} {M : Mth} {Post : Option Value → AH → Prop} {cl sl pc : Nat} {ls : List (Option Value)} {st : List Value} {h : AH} {idx : Nat} {v : UInt32} (hd : decode (m_cc M) pc = .ok (.ldc idx, 2)) (hq : Cond.constantFloat (m_own M) idx v ∈ lw_g) (K : AW g M Post cl sl (pc + 2) ls (.float v :: st) h) : AW g M Post cl sl pc ls (st) h := by
  intro p e s m args below meth c H locs lsA al0 n0 al C ha hw hl
  exact lv_ldcf C.1 C.2.1 C.2.2.2.2.1 (C.2.2.2.2.2.1 _ hq) hd (K p e s m args below meth c H locs lsA al0 n0 al C ha hw hl)
theorem aw_iload_n {g : Glob} {M : Mth} {Post : Option Value → AH → Prop} {cl sl pc : Nat} {ls : List (Option Value)} {st : List Value} {h : AH} {k : Fin 4} {x : Int32} (hd : decode (m_cc M) pc = .ok (.iload_n k, 1)) (hk : lget ls (k : Nat) = some (.int x)) (K : AW g M Post cl sl (pc + 1) ls (.int x :: st) h) : AW g M Post cl sl pc ls (st) h := by
  intro p e s m args below meth c H locs lsA al0 n0 al C ha hw hl
  exact lv_iload_n C.1 C.2.1 hd rfl (hl.at hk) (K p e s m args below meth c H locs lsA al0 n0 al C ha hw hl)
theorem aw_iload {g : Glob} {M : Mth} {Post : Option Value → AH → Prop} {cl sl pc : Nat} {ls : List (Option Value)} {st : List Value} {h : AH} {k : Nat} {x : Int32} (hd : decode (m_cc M) pc = .ok (.iload k, 2)) (hk : lget ls k = some (.int x)) (K : AW g M Post cl sl (pc + 2) ls (.int x :: st) h) : AW g M Post cl sl pc ls (st) h := by
  intro p e s m args below meth c H locs lsA al0 n0 al C ha hw hl
  exact lv_iload C.1 C.2.1 hd (hl.at hk) (K p e s m args below meth c H locs lsA al0 n0 al C ha hw hl)
theorem aw_lload_n {g : Glob} {M : Mth} {Post : Option Value → AH → Prop} {cl sl pc : Nat} {ls : List (Option Value)} {st : List Value} {h : AH} {k : Fin 4} {x : Int64} (hd : decode (m_cc M) pc = .ok (.lload_n k, 1)) (hk : lget ls (k : Nat) = some (.long x)) (K : AW g M Post cl sl (pc + 1) ls (.long x :: st) h) : AW g M Post cl sl pc ls (st) h := by
  intro p e s m args below meth c H locs lsA al0 n0 al C ha hw hl
  exact lv_lload_n C.1 C.2.1 hd rfl (hl.at hk) (K p e s m args below meth c H locs lsA al0 n0 al C ha hw hl)
theorem aw_lload {g : Glob} {M : Mth} {Post : Option Value → AH → Prop} {cl sl pc : Nat} {ls : List (Option Value)} {st : List Value} {h : AH} {k : Nat} {x : Int64} (hd : decode (m_cc M) pc = .ok (.lload k, 2)) (hk : lget ls k = some (.long x)) (K : AW g M Post cl sl (pc + 2) ls (.long x :: st) h) : AW g M Post cl sl pc ls (st) h := by
  intro p e s m args below meth c H locs lsA al0 n0 al C ha hw hl
  exact lv_lload C.1 C.2.1 hd (hl.at hk) (K p e s m args below meth c H locs lsA al0 n0 al C ha hw hl)
theorem aw_fload_n {g : Glob} {M : Mth} {Post : Option Value → AH → Prop} {cl sl pc : Nat} {ls : List (Option Value)} {st : List Value} {h : AH} {k : Fin 4} {x : UInt32} (hd : decode (m_cc M) pc = .ok (.fload_n k, 1)) (hk : lget ls (k : Nat) = some (.float x)) (K : AW g M Post cl sl (pc + 1) ls (.float x :: st) h) : AW g M Post cl sl pc ls (st) h := by
  intro p e s m args below meth c H locs lsA al0 n0 al C ha hw hl
  exact lv_fload_n C.1 C.2.1 hd rfl (hl.at hk) (K p e s m args below meth c H locs lsA al0 n0 al C ha hw hl)
theorem aw_fload {g : Glob} {M : Mth} {Post : Option Value → AH → Prop} {cl sl pc : Nat} {ls : List (Option Value)} {st : List Value} {h : AH} {k : Nat} {x : UInt32} (hd : decode (m_cc M) pc = .ok (.fload k, 2)) (hk : lget ls k = some (.float x)) (K : AW g M Post cl sl (pc + 2) ls (.float x :: st) h) : AW g M Post cl sl pc ls (st) h := by
  intro p e s m args below meth c H locs lsA al0 n0 al C ha hw hl
  exact lv_fload C.1 C.2.1 hd (hl.at hk) (K p e s m args below meth c H locs lsA al0 n0 al C ha hw hl)
theorem aw_aload_n {g : Glob} {M : Mth} {Post : Option Value → AH → Prop} {cl sl pc : Nat} {ls : List (Option Value)} {st : List Value} {h : AH} {k : Fin 4} {x : Nat} (hd : decode (m_cc M) pc = .ok (.aload_n k, 1)) (hk : lget ls (k : Nat) = some (.ref x)) (K : AW g M Post cl sl (pc + 1) ls (.ref x :: st) h) : AW g M Post cl sl pc ls (st) h := by
  intro p e s m args below meth c H locs lsA al0 n0 al C ha hw hl
  exact lv_aload_n C.1 C.2.1 hd rfl (hl.at hk) (K p e s m args below meth c H locs lsA al0 n0 al C ha hw hl)
theorem aw_aload {g : Glob} {M : Mth} {Post : Option Value → AH → Prop} {cl sl pc : Nat} {ls : List (Option Value)} {st : List Value} {h : AH} {k : Nat} {x : Nat} (hd : decode (m_cc M) pc = .ok (.aload k, 2)) (hk : lget ls k = some (.ref x)) (K : AW g M Post cl sl (pc + 2) ls (.ref x :: st) h) : AW g M Post cl sl pc ls (st) h := by
  intro p e s m args below meth c H locs lsA al0 n0 al C ha hw hl
  exact lv_aload C.1 C.2.1 hd (hl.at hk) (K p e s m args below meth c H locs lsA al0 n0 al C ha hw hl)
theorem aw_istore_n {g : Glob} {M : Mth} {Post : Option Value → AH → Prop} {cl sl pc : Nat} {ls : List (Option Value)} {st : List Value} {h : AH} {k : Fin 4} {i : Nat} {x : Int32} (hd : decode (m_cc M) pc = .ok (.istore_n k, 1)) (hi : (k : Nat) = i) (hn : i < m_nL M) (hc : c2at ls i = false) (K : AW g M Post cl sl (pc + 1) (ls.set i (some (.int x))) st h) : AW g M Post cl sl pc ls (.int x :: st) h := by
  intro p e s m args below meth c H locs lsA al0 n0 al C ha hw hl
  exact lv_istore_n C.1 C.2.1 hd hi hl.has hn rfl (fun ls' hl' => K p e s m args below meth c H locs ls' al0 n0 al C ha hw (LH.set1 (v := .int x) hc hl'))
theorem aw_istore {g : Glob} {M : Mth} {Post : Option Value → AH → Prop} {cl sl pc : Nat} {ls : List (Option Value)} {st : List Value} {h : AH} {i : Nat} {x : Int32} (hd : decode (m_cc M) pc = .ok (.istore i, 2)) (hn : i < m_nL M) (hc : c2at ls i = false) (K : AW g M Post cl sl (pc + 2) (ls.set i (some (.int x))) st h) : AW g M Post cl sl pc ls (.int x :: st) h := by
  intro p e s m args below meth c H locs lsA al0 n0 al C ha hw hl
  exact lv_istore C.1 C.2.1 hd hl.has hn rfl (fun ls' hl' => K p e s m args below meth c H locs ls' al0 n0 al C ha hw (LH.set1 (v := .int x) hc hl'))
theorem aw_fstore_n {g : Glob} {M : Mth} {Post : Option Value → AH → Prop} {cl sl pc : Nat} {ls : List (Option Value)} {st : List Value} {h : AH} {k : Fin 4} {i : Nat} {x : UInt32} (hd : decode (m_cc M) pc = .ok (.fstore_n k, 1)) (hi : (k : Nat) = i) (hn : i < m_nL M) (hc : c2at ls i = false) (K : AW g M Post cl sl (pc + 1) (ls.set i (some (.float x))) st h) : AW g M Post cl sl pc ls (.float x :: st) h := by
  intro p e s m args below meth c H locs lsA al0 n0 al C ha hw hl
  exact lv_fstore_n C.1 C.2.1 hd hi hl.has hn rfl (fun ls' hl' => K p e s m args below meth c H locs ls' al0 n0 al C ha hw (LH.set1 (v := .float x) hc hl'))
theorem aw_fstore {g : Glob} {M : Mth} {Post : Option Value → AH → Prop} {cl sl pc : Nat} {ls : List (Option Value)} {st : List Value} {h : AH} {i : Nat} {x : UInt32} (hd : decode (m_cc M) pc = .ok (.fstore i, 2)) (hn : i < m_nL M) (hc : c2at ls i = false) (K : AW g M Post cl sl (pc + 2) (ls.set i (some (.float x))) st h) : AW g M Post cl sl pc ls (.float x :: st) h := by
  intro p e s m args below meth c H locs lsA al0 n0 al C ha hw hl
  exact lv_fstore C.1 C.2.1 hd hl.has hn rfl (fun ls' hl' => K p e s m args below meth c H locs ls' al0 n0 al C ha hw (LH.set1 (v := .float x) hc hl'))
theorem aw_lstore_n {g : Glob} {M : Mth} {Post : Option Value → AH → Prop} {cl sl pc : Nat} {ls : List (Option Value)} {st : List Value} {h : AH} {k : Fin 4} {i : Nat} {x : Int64} (hd : decode (m_cc M) pc = .ok (.lstore_n k, 1)) (hi : (k : Nat) = i) (hn : i + 1 < m_nL M) (hc : c2at ls i = false) (K : AW g M Post cl sl (pc + 1) ((ls.set i (some (.long x))).set (i + 1) none) st h) : AW g M Post cl sl pc ls (.long x :: st) h := by
  intro p e s m args below meth c H locs lsA al0 n0 al C ha hw hl
  exact lv_lstore_n C.1 C.2.1 hd hi hl.has hn rfl (fun ls' hl' => K p e s m args below meth c H locs ls' al0 n0 al C ha hw (LH.set2 (v := .long x) hc hl'))
theorem aw_lstore {g : Glob} {M : Mth} {Post : Option Value → AH → Prop} {cl sl pc : Nat} {ls : List (Option Value)} {st : List Value} {h : AH} {i : Nat} {x : Int64} (hd : decode (m_cc M) pc = .ok (.lstore i, 2)) (hn : i + 1 < m_nL M) (hc : c2at ls i = false) (K : AW g M Post cl sl (pc + 2) ((ls.set i (some (.long x))).set (i + 1) none) st h) : AW g M Post cl sl pc ls (.long x :: st) h := by
  intro p e s m args below meth c H locs lsA al0 n0 al C ha hw hl
  exact lv_lstore C.1 C.2.1 hd hl.has hn rfl (fun ls' hl' => K p e s m args below meth c H locs ls' al0 n0 al C ha hw (LH.set2 (v := .long x) hc hl'))
theorem aw_astore_n {g : Glob} {M : Mth} {Post : Option Value → AH → Prop} {cl sl pc : Nat} {ls : List (Option Value)} {st : List Value} {h : AH} {k : Fin 4} {i : Nat} {x : Nat} (hd : decode (m_cc M) pc = .ok (.astore_n k, 1)) (hi : (k : Nat) = i) (hn : i < m_nL M) (hc : c2at ls i = false) (K : AW g M Post cl sl (pc + 1) (ls.set i (some (.ref x))) st h) : AW g M Post cl sl pc ls (.ref x :: st) h := by
  intro p e s m args below meth c H locs lsA al0 n0 al C ha hw hl
  exact lv_astore_n C.1 C.2.1 hd hi hl.has hn rfl (fun ls' hl' => K p e s m args below meth c H locs ls' al0 n0 al C ha hw (LH.set1 (v := .ref x) hc hl'))
theorem aw_astore {g : Glob} {M : Mth} {Post : Option Value → AH → Prop} {cl sl pc : Nat} {ls : List (Option Value)} {st : List Value} {h : AH} {i : Nat} {x : Nat} (hd : decode (m_cc M) pc = .ok (.astore i, 2)) (hn : i < m_nL M) (hc : c2at ls i = false) (K : AW g M Post cl sl (pc + 2) (ls.set i (some (.ref x))) st h) : AW g M Post cl sl pc ls (.ref x :: st) h := by
  intro p e s m args below meth c H locs lsA al0 n0 al C ha hw hl
  exact lv_astore C.1 C.2.1 hd hl.has hn rfl (fun ls' hl' => K p e s m args below meth c H locs ls' al0 n0 al C ha hw (LH.set1 (v := .ref x) hc hl'))
theorem aw_iinc {g : Glob} {M : Mth} {Post : Option Value → AH → Prop} {cl sl pc : Nat} {ls : List (Option Value)} {st : List Value} {h : AH} {i : Nat} {n : Int} {x v : Int32} (hd : decode (m_cc M) pc = .ok (.iinc i n, 3)) (hk : lget ls i = some (.int x)) (hv : Int32.ofInt n = v) (hn : i < m_nL M) (hc : c2at ls i = false) (K : AW g M Post cl sl (pc + 3) (ls.set i (some (.int (x + v)))) st h) : AW g M Post cl sl pc ls st h := by
  intro p e s m args below meth c H locs lsA al0 n0 al C ha hw hl
  subst hv
  obtain ⟨k, hk'⟩ := List.getElem?_of_mem (lvl_mem (g := g) (al := al) (lget_some hk))
  exact lv_iinc (k := k) C.1 C.2.1 hd hl.has hk' rfl hn rfl (fun ls' hl' => K p e s m args below meth c H locs ls' al0 n0 al C ha hw (LH.set1 (v := .int (x + Int32.ofInt n)) hc hl'))
theorem aw_iadd {g : Glob} {M : Mth} {Post : Option Value → AH → Prop} {cl sl pc : Nat} {ls : List (Option Value)} {st : List Value} {h : AH} {x y : Int32} (hd : decode (m_cc M) pc = .ok (.iadd, 1)) (K : AW g M Post cl sl (pc + 1) ls (.int (x + y) :: st) h) : AW g M Post cl sl pc ls (.int y :: .int x :: st) h := by
  intro p e s m args below meth c H locs lsA al0 n0 al C ha hw hl
  exact lv_iadd C.1 C.2.1 hd (K p e s m args below meth c H locs lsA al0 n0 al C ha hw hl)
theorem aw_isub {g : Glob} {M : Mth} {Post : Option Value → AH → Prop} {cl sl pc : Nat} {ls : List (Option Value)} {st : List Value} {h : AH} {x y : Int32} (hd : decode (m_cc M) pc = .ok (.isub, 1)) (K : AW g M Post cl sl (pc + 1) ls (.int (x - y) :: st) h) : AW g M Post cl sl pc ls (.int y :: .int x :: st) h := by
  intro p e s m args below meth c H locs lsA al0 n0 al C ha hw hl
  exact lv_isub C.1 C.2.1 hd (K p e s m args below meth c H locs lsA al0 n0 al C ha hw hl)
theorem aw_imul {g : Glob} {M : Mth} {Post : Option Value → AH → Prop} {cl sl pc : Nat} {ls : List (Option Value)} {st : List Value} {h : AH} {x y : Int32} (hd : decode (m_cc M) pc = .ok (.imul, 1)) (K : AW g M Post cl sl (pc + 1) ls (.int (x * y) :: st) h) : AW g M Post cl sl pc ls (.int y :: .int x :: st) h := by
  intro p e s m args below meth c H locs lsA al0 n0 al C ha hw hl
  exact lv_imul C.1 C.2.1 hd (K p e s m args below meth c H locs lsA al0 n0 al C ha hw hl)
theorem aw_iand {g : Glob} {M : Mth} {Post : Option Value → AH → Prop} {cl sl pc : Nat} {ls : List (Option Value)} {st : List Value} {h : AH} {x y : Int32} (hd : decode (m_cc M) pc = .ok (.iand, 1)) (K : AW g M Post cl sl (pc + 1) ls (.int (x &&& y) :: st) h) : AW g M Post cl sl pc ls (.int y :: .int x :: st) h := by
  intro p e s m args below meth c H locs lsA al0 n0 al C ha hw hl
  exact lv_iand C.1 C.2.1 hd (K p e s m args below meth c H locs lsA al0 n0 al C ha hw hl)
theorem aw_ior {g : Glob} {M : Mth} {Post : Option Value → AH → Prop} {cl sl pc : Nat} {ls : List (Option Value)} {st : List Value} {h : AH} {x y : Int32} (hd : decode (m_cc M) pc = .ok (.ior, 1)) (K : AW g M Post cl sl (pc + 1) ls (.int (x ||| y) :: st) h) : AW g M Post cl sl pc ls (.int y :: .int x :: st) h := by
  intro p e s m args below meth c H locs lsA al0 n0 al C ha hw hl
  exact lv_ior C.1 C.2.1 hd (K p e s m args below meth c H locs lsA al0 n0 al C ha hw hl)
theorem aw_ixor {g : Glob} {M : Mth} {Post : Option Value → AH → Prop} {cl sl pc : Nat} {ls : List (Option Value)} {st : List Value} {h : AH} {x y : Int32} (hd : decode (m_cc M) pc = .ok (.ixor, 1)) (K : AW g M Post cl sl (pc + 1) ls (.int (x ^^^ y) :: st) h) : AW g M Post cl sl pc ls (.int y :: .int x :: st) h := by
  intro p e s m args below meth c H locs lsA al0 n0 al C ha hw hl
  exact lv_ixor C.1 C.2.1 hd (K p e s m args below meth c H locs lsA al0 n0 al C ha hw hl)
theorem aw_ishl {g : Glob} {M : Mth} {Post : Option Value → AH → Prop} {cl sl pc : Nat} {ls : List (Option Value)} {st : List Value} {h : AH} {x y : Int32} (hd : decode (m_cc M) pc = .ok (.ishl, 1)) (K : AW g M Post cl sl (pc + 1) ls (.int (x <<< (y &&& 31)) :: st) h) : AW g M Post cl sl pc ls (.int y :: .int x :: st) h := by
  intro p e s m args below meth c H locs lsA al0 n0 al C ha hw hl
  exact lv_ishl C.1 C.2.1 hd (K p e s m args below meth c H locs lsA al0 n0 al C ha hw hl)
theorem aw_ishr {g : Glob} {M : Mth} {Post : Option Value → AH → Prop} {cl sl pc : Nat} {ls : List (Option Value)} {st : List Value} {h : AH} {x y : Int32} (hd : decode (m_cc M) pc = .ok (.ishr, 1)) (K : AW g M Post cl sl (pc + 1) ls (.int (x >>> (y &&& 31)) :: st) h) : AW g M Post cl sl pc ls (.int y :: .int x :: st) h := by
  intro p e s m args below meth c H locs lsA al0 n0 al C ha hw hl
  exact lv_ishr C.1 C.2.1 hd (K p e s m args below meth c H locs lsA al0 n0 al C ha hw hl)
theorem aw_iushr {g : Glob} {M : Mth} {Post : Option Value → AH → Prop} {cl sl pc : Nat} {ls : List (Option Value)} {st : List Value} {h : AH} {x y : Int32} (hd : decode (m_cc M) pc = .ok (.iushr, 1)) (K : AW g M Post cl sl (pc + 1) ls (.int ((x.toUInt32 >>> (y.toUInt32 &&& Int32.toUInt32 31)).toInt32) :: st) h) : AW g M Post cl sl pc ls (.int y :: .int x :: st) h := by
  intro p e s m args below meth c H locs lsA al0 n0 al C ha hw hl
  exact lv_iushr C.1 C.2.1 hd rfl (K p e s m args below meth c H locs lsA al0 n0 al C ha hw hl)
theorem aw_ineg {g : Glob} {M : Mth} {Post : Option Value → AH → Prop} {cl sl pc : Nat} {ls : List (Option Value)} {st : List Value} {h : AH} {x : Int32} (hd : decode (m_cc M) pc = .ok (.ineg, 1)) (K : AW g M Post cl sl (pc + 1) ls (.int (-x) :: st) h) : AW g M Post cl sl pc ls (.int x :: st) h := by
  intro p e s m args below meth c H locs lsA al0 n0 al C ha hw hl
  exact lv_ineg C.1 C.2.1 hd (K p e s m args below meth c H locs lsA al0 n0 al C ha hw hl)
theorem aw_i2l {g : Glob} {M : Mth} {Post : Option Value → AH → Prop} {cl sl pc : Nat} {ls : List (Option Value)} {st : List Value} {h : AH} {x : Int32} (hd : decode (m_cc M) pc = .ok (.i2l, 1)) (K : AW g M Post cl sl (pc + 1) ls (.long x.toInt64 :: st) h) : AW g M Post cl sl pc ls (.int x :: st) h := by
  intro p e s m args below meth c H locs lsA al0 n0 al C ha hw hl
  exact lv_i2l C.1 C.2.1 hd rfl (K p e s m args below meth c H locs lsA al0 n0 al C ha hw hl)
theorem aw_i2c {g : Glob} {M : Mth} {Post : Option Value → AH → Prop} {cl sl pc : Nat} {ls : List (Option Value)} {st : List Value} {h : AH} {x : Int32} (hd : decode (m_cc M) pc = .ok (.i2c, 1)) (K : AW g M Post cl sl (pc + 1) ls (.int (x.toUInt32 % 65536).toInt32 :: st) h) : AW g M Post cl sl pc ls (.int x :: st) h := by
  intro p e s m args below meth c H locs lsA al0 n0 al C ha hw hl
  exact lv_i2c C.1 C.2.1 hd rfl (K p e s m args below meth c H locs lsA al0 n0 al C ha hw hl)
theorem aw_i2f {g : Glob} {M : Mth} {Post : Option Value → AH → Prop} {cl sl pc : Nat} {ls : List (Option Value)} {st : List Value} {h : AH} {x : Int32} (hd : decode (m_cc M) pc = .ok (.i2f, 1)) (K : AW g M Post cl sl (pc + 1) ls (.float (FP.i2f x) :: st) h) : AW g M Post cl sl pc ls (.int x :: st) h := by
  intro p e s m args below meth c H locs lsA al0 n0 al C ha hw hl
  exact lv_i2f C.1 C.2.1 hd (K p e s m args below meth c H locs lsA al0 n0 al C ha hw hl)
theorem aw_f2i {g : Glob} {M : Mth} {Post : Option Value → AH → Prop} {cl sl pc : Nat} {ls : List (Option Value)} {st : List Value} {h : AH} {x : UInt32} (hd : decode (m_cc M) pc = .ok (.f2i, 1)) (K : AW g M Post cl sl (pc + 1) ls (.int (FP.f2i x) :: st) h) : AW g M Post cl sl pc ls (.float x :: st) h := by
  intro p e s m args below meth c H locs lsA al0 n0 al C ha hw hl
  exact lv_f2i C.1 C.2.1 hd (K p e s m args below meth c H locs lsA al0 n0 al C ha hw hl)
theorem aw_ladd {g : Glob} {M : Mth} {Post : Option Value → AH → Prop} {cl sl pc : Nat} {ls : List (Option Value)} {st : List Value} {h : AH} {x y : Int64} (hd : decode (m_cc M) pc = .ok (.ladd, 1)) (K : AW g M Post cl sl (pc + 1) ls (.long (x + y) :: st) h) : AW g M Post cl sl pc ls (.long y :: .long x :: st) h := by
  intro p e s m args below meth c H locs lsA al0 n0 al C ha hw hl
  exact lv_ladd C.1 C.2.1 hd (K p e s m args below meth c H locs lsA al0 n0 al C ha hw hl)
theorem aw_lsub {g : Glob} {M : Mth} {Post : Option Value → AH → Prop} {cl sl pc : Nat} {ls : List (Option Value)} {st : List Value} {h : AH} {x y : Int64} (hd : decode (m_cc M) pc = .ok (.lsub, 1)) (K : AW g M Post cl sl (pc + 1) ls (.long (x - y) :: st) h) : AW g M Post cl sl pc ls (.long y :: .long x :: st) h := by
  intro p e s m args below meth c H locs lsA al0 n0 al C ha hw hl
  exact lv_lsub C.1 C.2.1 hd (K p e s m args below meth c H locs lsA al0 n0 al C ha hw hl)
theorem aw_lmul {g : Glob} {M : Mth} {Post : Option Value → AH → Prop} {cl sl pc : Nat} {ls : List (Option Value)} {st : List Value} {h : AH} {x y : Int64} (hd : decode (m_cc M) pc = .ok (.lmul, 1)) (K : AW g M Post cl sl (pc + 1) ls (.long (x * y) :: st) h) : AW g M Post cl sl pc ls (.long y :: .long x :: st) h := by
  intro p e s m args below meth c H locs lsA al0 n0 al C ha hw hl
  exact lv_lmul C.1 C.2.1 hd (K p e s m args below meth c H locs lsA al0 n0 al C ha hw hl)
theorem aw_lcmp {g : Glob} {M : Mth} {Post : Option Value → AH → Prop} {cl sl pc : Nat} {ls : List (Option Value)} {st : List Value} {h : AH} {x y : Int64} (hd : decode (m_cc M) pc = .ok (.lcmp, 1)) (K : AW g M Post cl sl (pc + 1) ls (.int (lg_cmp x y) :: st) h) : AW g M Post cl sl pc ls (.long y :: .long x :: st) h := by
  intro p e s m args below meth c H locs lsA al0 n0 al C ha hw hl
  exact W.lcmp C.1 C.2.1 hd (K p e s m args below meth c H locs lsA al0 n0 al C ha hw hl)
theorem aw_fadd {g : Glob} {M : Mth} {Post : Option Value → AH → Prop} {cl sl pc : Nat} {ls : List (Option Value)} {st : List Value} {h : AH} {x y : UInt32} (hd : decode (m_cc M) pc = .ok (.fadd, 1)) (hn : vf_n32 (FP.fadd x y)) (K : AW g M Post cl sl (pc + 1) ls (.float (FP.fadd x y) :: st) h) : AW g M Post cl sl pc ls (.float y :: .float x :: st) h := by
  intro p e s m args below meth c H locs lsA al0 n0 al C ha hw hl
  exact lv_fadd C.1 C.2.1 hd hn (K p e s m args below meth c H locs lsA al0 n0 al C ha hw hl)
theorem aw_fmul {g : Glob} {M : Mth} {Post : Option Value → AH → Prop} {cl sl pc : Nat} {ls : List (Option Value)} {st : List Value} {h : AH} {x y : UInt32} (hd : decode (m_cc M) pc = .ok (.fmul, 1)) (hn : vf_n32 (FP.fmul x y)) (K : AW g M Post cl sl (pc + 1) ls (.float (FP.fmul x y) :: st) h) : AW g M Post cl sl pc ls (.float y :: .float x :: st) h := by
  intro p e s m args below meth c H locs lsA al0 n0 al C ha hw hl
  exact lv_fmul C.1 C.2.1 hd hn (K p e s m args below meth c H locs lsA al0 n0 al C ha hw hl)
theorem aw_fdiv {g : Glob} {M : Mth} {Post : Option Value → AH → Prop} {cl sl pc : Nat} {ls : List (Option Value)} {st : List Value} {h : AH} {x y : UInt32} (hd : decode (m_cc M) pc = .ok (.fdiv, 1)) (hn : vf_n32 (FP.fdiv x y)) (K : AW g M Post cl sl (pc + 1) ls (.float (FP.fdiv x y) :: st) h) : AW g M Post cl sl pc ls (.float y :: .float x :: st) h := by
  intro p e s m args below meth c H locs lsA al0 n0 al C ha hw hl
  exact lv_fdiv C.1 C.2.1 hd hn (K p e s m args below meth c H locs lsA al0 n0 al C ha hw hl)
theorem aw_fcmp {g : Glob} {M : Mth} {Post : Option Value → AH → Prop} {cl sl pc : Nat} {ls : List (Option Value)} {st : List Value} {h : AH} {x y : UInt32} {op : CmpOp} (hd : decode (m_cc M) pc = .ok (.fcmp op, 1)) (K : AW g M Post cl sl (pc + 1) ls (.int (Op.cmpValue (FP.fcmp x y) op) :: st) h) : AW g M Post cl sl pc ls (.float y :: .float x :: st) h := by
  intro p e s m args below meth c H locs lsA al0 n0 al C ha hw hl
  exact lv_fcmp C.1 C.2.1 hd (K p e s m args below meth c H locs lsA al0 n0 al C ha hw hl)
theorem aw_dup {g : Glob} {M : Mth} {Post : Option Value → AH → Prop} {cl sl pc : Nat} {ls : List (Option Value)} {st : List Value} {h : AH} {v : Value} (hd : decode (m_cc M) pc = .ok (.dup, 1)) (hc : v.category = 1) (K : AW g M Post cl sl (pc + 1) ls (v :: v :: st) h) : AW g M Post cl sl pc ls (v :: st) h := by
  intro p e s m args below meth c H locs lsA al0 n0 al C ha hw hl
  exact lv_dup C.1 C.2.1 hd ((trV_cat g al v).trans hc) (K p e s m args below meth c H locs lsA al0 n0 al C ha hw hl)
theorem aw_pop {g : Glob} {M : Mth} {Post : Option Value → AH → Prop} {cl sl pc : Nat} {ls : List (Option Value)} {st : List Value} {h : AH} {v : Value} (hd : decode (m_cc M) pc = .ok (.pop, 1)) (hc : v.category = 1) (K : AW g M Post cl sl (pc + 1) ls (st) h) : AW g M Post cl sl pc ls (v :: st) h := by
  intro p e s m args below meth c H locs lsA al0 n0 al C ha hw hl
  exact lv_pop C.1 C.2.1 hd ((trV_cat g al v).trans hc) (K p e s m args below meth c H locs lsA al0 n0 al C ha hw hl)
theorem aw_dup2 {g : Glob} {M : Mth} {Post : Option Value → AH → Prop} {cl sl pc : Nat} {ls : List (Option Value)} {st : List Value} {h : AH} {v u : Value} (hd : decode (m_cc M) pc = .ok (.dup2, 1)) (hc : v.category = 1) (hc2 : u.category = 1) (K : AW g M Post cl sl (pc + 1) ls (v :: u :: v :: u :: st) h) : AW g M Post cl sl pc ls (v :: u :: st) h := by
  intro p e s m args below meth c H locs lsA al0 n0 al C ha hw hl
  exact lv_dup2_11 C.1 C.2.1 hd ((trV_cat g al v).trans hc) ((trV_cat g al u).trans hc2) (K p e s m args below meth c H locs lsA al0 n0 al C ha hw hl)
theorem aw_icmp_eq {g : Glob} {M : Mth} {Post : Option Value → AH → Prop} {cl sl pc : Nat} {ls : List (Option Value)} {st : List Value} {h : AH} {x y : Int32} {off : Int} {t : Nat} (hd : decode (m_cc M) pc = .ok (.if_icmp .eq off, 3)) (ht : (pc : Int) + off = (t : Int)) (K1 : x = y → AW g M Post cl sl t ls st h) (K2 : ¬ x = y → AW g M Post cl sl (pc + 3) ls st h) : AW g M Post cl sl pc ls (.int y :: .int x :: st) h := by
  intro p e s m args below meth c H locs lsA al0 n0 al C ha hw hl
  exact lv_icmp_eq C.1 C.2.1 hd ht (fun z => K1 z p e s m args below meth c H locs lsA al0 n0 al C ha hw hl) (fun z => K2 z p e s m args below meth c H locs lsA al0 n0 al C ha hw hl)
theorem aw_if_eq {g : Glob} {M : Mth} {Post : Option Value → AH → Prop} {cl sl pc : Nat} {ls : List (Option Value)} {st : List Value} {h : AH} {x : Int32} {off : Int} {t : Nat} (hd : decode (m_cc M) pc = .ok (.ifCond .eq off, 3)) (ht : (pc : Int) + off = (t : Int)) (K1 : x = 0 → AW g M Post cl sl t ls st h) (K2 : ¬ x = 0 → AW g M Post cl sl (pc + 3) ls st h) : AW g M Post cl sl pc ls (.int x :: st) h := by
  intro p e s m args below meth c H locs lsA al0 n0 al C ha hw hl
  exact lv_if_eq C.1 C.2.1 hd ht (fun z => K1 z p e s m args below meth c H locs lsA al0 n0 al C ha hw hl) (fun z => K2 z p e s m args below meth c H locs lsA al0 n0 al C ha hw hl)
theorem aw_icmp_ne {g : Glob} {M : Mth} {Post : Option Value → AH → Prop} {cl sl pc : Nat} {ls : List (Option Value)} {st : List Value} {h : AH} {x y : Int32} {off : Int} {t : Nat} (hd : decode (m_cc M) pc = .ok (.if_icmp .ne off, 3)) (ht : (pc : Int) + off = (t : Int)) (K1 : ¬ x = y → AW g M Post cl sl t ls st h) (K2 : x = y → AW g M Post cl sl (pc + 3) ls st h) : AW g M Post cl sl pc ls (.int y :: .int x :: st) h := by
  intro p e s m args below meth c H locs lsA al0 n0 al C ha hw hl
  exact lv_icmp_ne C.1 C.2.1 hd ht (fun z => K1 z p e s m args below meth c H locs lsA al0 n0 al C ha hw hl) (fun z => K2 z p e s m args below meth c H locs lsA al0 n0 al C ha hw hl)
theorem aw_if_ne {g : Glob} {M : Mth} {Post : Option Value → AH → Prop} {cl sl pc : Nat} {ls : List (Option Value)} {st : List Value} {h : AH} {x : Int32} {off : Int} {t : Nat} (hd : decode (m_cc M) pc = .ok (.ifCond .ne off, 3)) (ht : (pc : Int) + off = (t : Int)) (K1 : ¬ x = 0 → AW g M Post cl sl t ls st h) (K2 : x = 0 → AW g M Post cl sl (pc + 3) ls st h) : AW g M Post cl sl pc ls (.int x :: st) h := by
  intro p e s m args below meth c H locs lsA al0 n0 al C ha hw hl
  exact lv_if_ne C.1 C.2.1 hd ht (fun z => K1 z p e s m args below meth c H locs lsA al0 n0 al C ha hw hl) (fun z => K2 z p e s m args below meth c H locs lsA al0 n0 al C ha hw hl)
theorem aw_icmp_lt {g : Glob} {M : Mth} {Post : Option Value → AH → Prop} {cl sl pc : Nat} {ls : List (Option Value)} {st : List Value} {h : AH} {x y : Int32} {off : Int} {t : Nat} (hd : decode (m_cc M) pc = .ok (.if_icmp .lt off, 3)) (ht : (pc : Int) + off = (t : Int)) (K1 : x < y → AW g M Post cl sl t ls st h) (K2 : ¬ x < y → AW g M Post cl sl (pc + 3) ls st h) : AW g M Post cl sl pc ls (.int y :: .int x :: st) h := by
  intro p e s m args below meth c H locs lsA al0 n0 al C ha hw hl
  exact lv_icmp_lt C.1 C.2.1 hd ht (fun z => K1 z p e s m args below meth c H locs lsA al0 n0 al C ha hw hl) (fun z => K2 z p e s m args below meth c H locs lsA al0 n0 al C ha hw hl)
theorem aw_if_lt {g : Glob} {M : Mth} {Post : Option Value → AH → Prop} {cl sl pc : Nat} {ls : List (Option Value)} {st : List Value} {h : AH} {x : Int32} {off : Int} {t : Nat} (hd : decode (m_cc M) pc = .ok (.ifCond .lt off, 3)) (ht : (pc : Int) + off = (t : Int)) (K1 : x < 0 → AW g M Post cl sl t ls st h) (K2 : ¬ x < 0 → AW g M Post cl sl (pc + 3) ls st h) : AW g M Post cl sl pc ls (.int x :: st) h := by
  intro p e s m args below meth c H locs lsA al0 n0 al C ha hw hl
  exact lv_if_lt C.1 C.2.1 hd ht (fun z => K1 z p e s m args below meth c H locs lsA al0 n0 al C ha hw hl) (fun z => K2 z p e s m args below meth c H locs lsA al0 n0 al C ha hw hl)
theorem aw_icmp_ge {g : Glob} {M : Mth} {Post : Option Value → AH → Prop} {cl sl pc : Nat} {ls : List (Option Value)} {st : List Value} {h : AH} {x y : Int32} {off : Int} {t : Nat} (hd : decode (m_cc M) pc = .ok (.if_icmp .ge off, 3)) (ht : (pc : Int) + off = (t : Int)) (K1 : y ≤ x → AW g M Post cl sl t ls st h) (K2 : ¬ y ≤ x → AW g M Post cl sl (pc + 3) ls st h) : AW g M Post cl sl pc ls (.int y :: .int x :: st) h := by
  intro p e s m args below meth c H locs lsA al0 n0 al C ha hw hl
  exact lv_icmp_ge C.1 C.2.1 hd ht (fun z => K1 z p e s m args below meth c H locs lsA al0 n0 al C ha hw hl) (fun z => K2 z p e s m args below meth c H locs lsA al0 n0 al C ha hw hl)
theorem aw_if_ge {g : Glob} {M : Mth} {Post : Option Value → AH → Prop} {cl sl pc : Nat} {ls : List (Option Value)} {st : List Value} {h : AH} {x : Int32} {off : Int} {t : Nat} (hd : decode (m_cc M) pc = .ok (.ifCond .ge off, 3)) (ht : (pc : Int) + off = (t : Int)) (K1 : 0 ≤ x → AW g M Post cl sl t ls st h) (K2 : ¬ 0 ≤ x → AW g M Post cl sl (pc + 3) ls st h) : AW g M Post cl sl pc ls (.int x :: st) h := by
  intro p e s m args below meth c H locs lsA al0 n0 al C ha hw hl
  exact lv_if_ge C.1 C.2.1 hd ht (fun z => K1 z p e s m args below meth c H locs lsA al0 n0 al C ha hw hl) (fun z => K2 z p e s m args below meth c H locs lsA al0 n0 al C ha hw hl)
theorem aw_icmp_gt {g : Glob} {M : Mth} {Post : Option Value → AH → Prop} {cl sl pc : Nat} {ls : List (Option Value)} {st : List Value} {h : AH} {x y : Int32} {off : Int} {t : Nat} (hd : decode (m_cc M) pc = .ok (.if_icmp .gt off, 3)) (ht : (pc : Int) + off = (t : Int)) (K1 : y < x → AW g M Post cl sl t ls st h) (K2 : ¬ y < x → AW g M Post cl sl (pc + 3) ls st h) : AW g M Post cl sl pc ls (.int y :: .int x :: st) h := by
  intro p e s m args below meth c H locs lsA al0 n0 al C ha hw hl
  exact lv_icmp_gt C.1 C.2.1 hd ht (fun z => K1 z p e s m args below meth c H locs lsA al0 n0 al C ha hw hl) (fun z => K2 z p e s m args below meth c H locs lsA al0 n0 al C ha hw hl)
theorem aw_if_gt {g : Glob} {M : Mth} {Post : Option Value → AH → Prop} {cl sl pc : Nat} {ls : List (Option Value)} {st : List Value} {h : AH} {x : Int32} {off : Int} {t : Nat} (hd : decode (m_cc M) pc = .ok (.ifCond .gt off, 3)) (ht : (pc : Int) + off = (t : Int)) (K1 : 0 < x → AW g M Post cl sl t ls st h) (K2 : ¬ 0 < x → AW g M Post cl sl (pc + 3) ls st h) : AW g M Post cl sl pc ls (.int x :: st) h := by
  intro p e s m args below meth c H locs lsA al0 n0 al C ha hw hl
  exact lv_if_gt C.1 C.2.1 hd ht (fun z => K1 z p e s m args below meth c H locs lsA al0 n0 al C ha hw hl) (fun z => K2 z p e s m args below meth c H locs lsA al0 n0 al C ha hw hl)
theorem aw_icmp_le {g : Glob} {M : Mth} {Post : Option Value → AH → Prop} {cl sl pc : Nat} {ls : List (Option Value)} {st : List Value} {h : AH} {x y : Int32} {off : Int} {t : Nat} (hd : decode (m_cc M) pc = .ok (.if_icmp .le off, 3)) (ht : (pc : Int) + off = (t : Int)) (K1 : x ≤ y → AW g M Post cl sl t ls st h) (K2 : ¬ x ≤ y → AW g M Post cl sl (pc + 3) ls st h) : AW g M Post cl sl pc ls (.int y :: .int x :: st) h := by
  intro p e s m args below meth c H locs lsA al0 n0 al C ha hw hl
  exact lv_icmp_le C.1 C.2.1 hd ht (fun z => K1 z p e s m args below meth c H locs lsA al0 n0 al C ha hw hl) (fun z => K2 z p e s m args below meth c H locs lsA al0 n0 al C ha hw hl)
theorem aw_if_le {g : Glob} {M : Mth} {Post : Option Value → AH → Prop} {cl sl pc : Nat} {ls : List (Option Value)} {st : List Value} {h : AH} {x : Int32} {off : Int} {t : Nat} (hd : decode (m_cc M) pc = .ok (.ifCond .le off, 3)) (ht : (pc : Int) + off = (t : Int)) (K1 : x ≤ 0 → AW g M Post cl sl t ls st h) (K2 : ¬ x ≤ 0 → AW g M Post cl sl (pc + 3) ls st h) : AW g M Post cl sl pc ls (.int x :: st) h := by
  intro p e s m args below meth c H locs lsA al0 n0 al C ha hw hl
  exact lv_if_le C.1 C.2.1 hd ht (fun z => K1 z p e s m args below meth c H locs lsA al0 n0 al C ha hw hl) (fun z => K2 z p e s m args below meth c H locs lsA al0 n0 al C ha hw hl)
theorem aw_goto {g : Glob} {M : Mth} {Post : Option Value → AH → Prop} {cl sl pc : Nat} {ls : List (Option Value)} {st : List Value} {h : AH} {off : Int} {t : Nat} (hd : decode (m_cc M) pc = .ok (.goto off, 3)) (ht : (pc : Int) + off = (t : Int)) (K : AW g M Post cl sl t ls st h) : AW g M Post cl sl pc ls st h := by
  intro p e s m args below meth c H locs lsA al0 n0 al C ha hw hl
  exact lv_goto C.1 C.2.1 hd ht (K p e s m args below meth c H locs lsA al0 n0 al C ha hw hl)
end
section
/-- field types by class and place -/
def ctT (a : Nat) : u_T := match a with
  | 0 => TX0 | 1 => TX1 | 2 => TX2 | 3 => TX3 | 4 => TX4 | 5 => TX5 | _ => TX6
def cty (a : Nat) : Nat → FieldType := match a with
  | 0 => tyX0 | 1 => tyX1 | 2 => tyX2 | 3 => tyX3 | 4 => tyX4 | 5 => tyX5 | _ => tyX6
def ctR (a : Nat) : String := match a with
  | 0 => RX0 | 1 => RX1 | 2 => RX2 | 3 => RX3 | 4 => RX4 | 5 => RX5 | _ => RX6
def ctN (a : Nat) : Nat := match a with
  | 0 => 3 | 1 => 11 | 2 => 7 | 3 => 6 | 4 => 3 | 5 => 8 | _ => 23
theorem ct_cl {a : Nat} (h : a < 7) : vwCl[a]? = some (ctR a, ctT a, ctN a) := by
  rcases (show a = 0 ∨ a = 1 ∨ a = 2 ∨ a = 3 ∨ a = 4 ∨ a = 5 ∨ a = 6 by omega) with rfl | rfl | rfl | rfl | rfl | rfl | rfl <;> rfl
theorem ct_in0 : ∀ w ∈ u_ws RX0 TX0 3, w ∈ lw_g := by decide +kernel
theorem ct_in1 : ∀ w ∈ u_ws RX1 TX1 11, w ∈ lw_g := by decide +kernel
theorem ct_in2 : ∀ w ∈ u_ws RX2 TX2 7, w ∈ lw_g := by decide +kernel
theorem ct_in3 : ∀ w ∈ u_ws RX3 TX3 6, w ∈ lw_g := by decide +kernel
theorem ct_in4 : ∀ w ∈ u_ws RX4 TX4 3, w ∈ lw_g := by decide +kernel
theorem ct_in5 : ∀ w ∈ u_ws RX5 TX5 8, w ∈ lw_g := by decide +kernel
theorem ct_in6 : ∀ w ∈ u_ws RX6 TX6 23, w ∈ lw_g := by decide +kernel
theorem ct_in {a : Nat} (h : a < 7) : ∀ w ∈ u_ws (ctR a) (ctT a) (ctN a), w ∈ lw_g := by
  rcases (show a = 0 ∨ a = 1 ∨ a = 2 ∨ a = 3 ∨ a = 4 ∨ a = 5 ∨ a = 6 by omega) with rfl | rfl | rfl | rfl | rfl | rfl | rfl
  · exact ct_in0
  · exact ct_in1
  · exact ct_in2
  · exact ct_in3
  · exact ct_in4
  · exact ct_in5
  · exact ct_in6
theorem ct_ty {a : Nat} (h : a < 7) : ∀ k, k < ctN a → parseFieldDescriptor (ctT a k).2.2.1 = some (cty a k) := by
  rcases (show a = 0 ∨ a = 1 ∨ a = 2 ∨ a = 3 ∨ a = 4 ∨ a = 5 ∨ a = 6 by omega) with rfl | rfl | rfl | rfl | rfl | rfl | rfl
  · exact tyX0_ok
  · exact tyX1_ok
  · exact tyX2_ok
  · exact tyX3_ok
  · exact tyX4_ok
  · exact tyX5_ok
  · exact tyX6_ok
theorem ct_nm {a : Nat} (h : a < 7) : ∀ x, x < ctN a → ∀ y, y < ctN a → x ≠ y → (ctT a x).2.1 ≠ (ctT a y).2.1 := by
  rcases (show a = 0 ∨ a = 1 ∨ a = 2 ∨ a = 3 ∨ a = 4 ∨ a = 5 ∨ a = 6 by omega) with rfl | rfl | rfl | rfl | rfl | rfl | rfl
  · exact nmX0
  · exact nmX1
  · exact nmX2
  · exact nmX3
  · exact nmX4
  · exact nmX5
  · exact nmX6
theorem aw_get {g : Glob} {M : Mth} {Post : Option Value → AH → Prop} {cl sl pc : Nat} {ls : List (Option Value)} {st : List Value} {h : AH} {idx k a b : Nat} {fs : List Value} {v : Value} (hd : decode (m_cc M) pc = .ok (.getfield idx, 3)) (h7 : a < 7) (hb : b < ctN a) (hq : Cond.fieldLink (m_own M) idx (ctT a b).1 (ctT a b).2.1 (ctT a b).2.2.1 ∈ lw_g) (hk : hat h k = some (.inr (a, fs))) (hv : fs[b]? = some v) (K : AW g M Post cl sl (pc + 3) ls (v :: st) h) : AW g M Post cl sl pc ls (.ref k :: st) h := by
  intro p e s m args below meth c H locs lsA al0 n0 al C ha hw hl
  obtain ⟨hlt, hk⟩ := hat_some hk
  have hg := trW_get (g := g) (al := al) hk
  show W p (g_l g) e (m_room M) s m args below meth c H locs cl sl _ (F0 m pc lsA (.ref (trR g al k) :: st.map (trV g al)))
  rw [trR_lt hlt]
  exact va_get C.1 C.2.1 C.2.2.2.2.2.1 (ct_in h7) C.2.2.2.2.1 C.2.2.2.2.2.2.2.2.K hw.1 k hg (ct_cl h7) b hb (C.2.2.2.2.2.1 _ hq) (fun _ z => z) (v := trV g al v) (by rw [List.getElem?_map, hv]; rfl) hd (K p e s m args below meth c H locs lsA al0 n0 al C ha hw hl)
theorem agr_set {M : Mth} {al0 al : Nat → Nat} {n0 k : Nat} {h : AH} {e : va_E} (ha : agr M al0 n0 al h.length) : agr M al0 n0 al (h.set k e).length := by rw [List.length_set]; exact ha
theorem aw_put {g : Glob} {M : Mth} {Post : Option Value → AH → Prop} {cl sl pc : Nat} {ls : List (Option Value)} {st : List Value} {h : AH} {idx k a b : Nat} {fs : List Value} {v : Value} (hd : decode (m_cc M) pc = .ok (.putfield idx, 3)) (h7 : a < 7) (hb : b < ctN a) (hq : Cond.fieldLink (m_own M) idx (ctT a b).1 (ctT a b).2.1 (ctT a b).2.2.1 ∈ lw_g) (hk : hat h k = some (.inr (a, fs))) (hl2 : b < fs.length) (hf : (ctT a b).2.2.2 = false ∨ ((m_y M).name = "<init>" ∧ (ctT a b).1 = m_own M)) (hn : ∀ al, narrow (cty a b) (trV g al v) = trV g al v) (ht : ∀ al, fits (cty a b) (trV g al v) = true) (K : AW g M Post cl sl (pc + 3) ls st (h.set k (.inr (a, fs.set b v)))) : AW g M Post cl sl pc ls (v :: .ref k :: st) h := by
  intro p e s m args below meth c H locs lsA al0 n0 al C ha hw hl
  obtain ⟨hlt, hk⟩ := hat_some hk
  have hg := trW_get (g := g) (al := al) hk
  show W p (g_l g) e (m_room M) s m args below meth c H locs cl sl _ (F0 m pc lsA (trV g al v :: .ref (trR g al k) :: st.map (trV g al)))
  rw [trR_lt hlt]
  have key : ∀ (H1 : Heap) (locs1 : List Loc), va_P (g_D g) vwCl ((trW g al h).set k (al k, .inr (a, (fs.map (trV g al)).set b (trV g al v)))) H1 → va_D (g_A g) ((trW g al h).set k (al k, .inr (a, (fs.map (trV g al)).set b (trV g al v)))) → va_S (g_A g) s.heap H1 locs1 → W p (g_l g) e (m_room M) s m args below meth c H1 locs1 cl sl (MQ below (QC g M Post al0 n0) args s (m_mc M) (m_ms M) (g_A g)) (F0 m (pc + 3) lsA (st.map (trV g al))) := by
    intro H1 locs1 hP1 hD1 hS1
    have e1 : trW g al (h.set k (.inr (a, fs.set b v))) = (trW g al h).set k (al k, .inr (a, (fs.map (trV g al)).set b (trV g al v))) := by
      rw [trW_set]
      show (trW g al h).set k (al k, .inr (a, (fs.set b v).map (trV g al))) = _
      rw [List.map_set]
    exact K p e s m args below meth c H1 locs1 lsA al0 n0 al C (agr_set ha) ⟨by rw [e1]; exact hP1, by rw [e1]; exact hD1, hS1⟩ hl
  rcases hf with hf | ⟨hi, ho⟩
  · exact va_put C.1 C.2.1 C.2.2.2.2.2.1 (ct_in h7) (cty a) (ct_ty h7) (ct_nm h7) C.2.2.2.2.1 C.2.2.2.2.2.2.2.2.K hw.1 hw.2.1 hw.2.2 k hg (ct_cl h7) b hb (C.2.2.2.2.2.1 _ hq) (fun _ z => z) hf (ct_ty h7 b hb) (hn al) (ht al) (by rw [List.length_map]; exact hl2) hd key
  · cases hfin : (ctT a b).2.2.2 with
    | false => exact va_put C.1 C.2.1 C.2.2.2.2.2.1 (ct_in h7) (cty a) (ct_ty h7) (ct_nm h7) C.2.2.2.2.1 C.2.2.2.2.2.2.2.2.K hw.1 hw.2.1 hw.2.2 k hg (ct_cl h7) b hb (C.2.2.2.2.2.1 _ hq) (fun _ z => z) hfin (ct_ty h7 b hb) (hn al) (ht al) (by rw [List.length_map]; exact hl2) hd key
    | true => exact va_putF C.1 C.2.1 C.2.2.2.2.2.1 (ct_in h7) (cty a) (ct_ty h7) (ct_nm h7) C.2.2.2.2.1 C.2.2.2.2.2.2.2.2.K hw.1 hw.2.1 hw.2.2 k hg (ct_cl h7) b hb (C.2.2.2.2.2.1 _ hq) (fun _ z => z) hfin (C.2.2.2.2.2.2.2.1.trans hi) ho (ct_ty h7 b hb) (hn al) (ht al) (by rw [List.length_map]; exact hl2) hd key
theorem aw_iald {g : Glob} {M : Mth} {Post : Option Value → AH → Prop} {cl sl pc : Nat} {ls : List (Option Value)} {st : List Value} {h : AH} {k n : Nat} {f : Nat → Int32} {i : Int32} (hd : decode (m_cc M) pc = .ok (.iaload, 1)) (hk : hat h k = some (.inl (0, n, .inl f))) (hin : vp_in i n) (K : AW g M Post cl sl (pc + 1) ls (.int (f i.toNatClampNeg) :: st) h) : AW g M Post cl sl pc ls (.int i :: .ref k :: st) h := by
  intro p e s m args below meth c H locs lsA al0 n0 al C ha hw hl
  obtain ⟨hlt, hk⟩ := hat_some hk
  have hg : (trW g al h)[k]? = some (al k, .inl (g_c g 0, n, .inl f)) := trW_get (g := g) (al := al) hk
  show W p (g_l g) e (m_room M) s m args below meth c H locs cl sl _ (F0 m pc lsA (.int i :: .ref (trR g al k) :: st.map (trV g al)))
  rw [trR_lt hlt]
  exact va_iald C.1 C.2.1 C.2.2.2.2.2.2.2.2.K hw.1 k 0 hg rfl hin hd (K p e s m args below meth c H locs lsA al0 n0 al C ha hw hl)
theorem aw_zald {g : Glob} {M : Mth} {Post : Option Value → AH → Prop} {cl sl pc : Nat} {ls : List (Option Value)} {st : List Value} {h : AH} {k n : Nat} {f : Nat → Int32} {i : Int32} (hd : decode (m_cc M) pc = .ok (.baload, 1)) (hk : hat h k = some (.inl (1, n, .inl f))) (hin : vp_in i n) (K : AW g M Post cl sl (pc + 1) ls (.int (f i.toNatClampNeg) :: st) h) : AW g M Post cl sl pc ls (.int i :: .ref k :: st) h := by
  intro p e s m args below meth c H locs lsA al0 n0 al C ha hw hl
  obtain ⟨hlt, hk⟩ := hat_some hk
  have hg : (trW g al h)[k]? = some (al k, .inl (g_c g 1, n, .inl f)) := trW_get (g := g) (al := al) hk
  show W p (g_l g) e (m_room M) s m args below meth c H locs cl sl _ (F0 m pc lsA (.int i :: .ref (trR g al k) :: st.map (trV g al)))
  rw [trR_lt hlt]
  exact va_zald C.1 C.2.1 C.2.2.2.2.2.2.2.2.K hw.1 k 1 hg rfl hin hd (K p e s m args below meth c H locs lsA al0 n0 al C ha hw hl)
theorem aw_iast {g : Glob} {M : Mth} {Post : Option Value → AH → Prop} {cl sl pc : Nat} {ls : List (Option Value)} {st : List Value} {h : AH} {k n : Nat} {f : Nat → Int32} {i x : Int32} (hd : decode (m_cc M) pc = .ok (.iastore, 1)) (hk : hat h k = some (.inl (0, n, .inl f))) (hin : vp_in i n) (K : AW g M Post cl sl (pc + 1) ls st (h.set k (.inl (0, n, .inl (upd f i.toNatClampNeg x))))) : AW g M Post cl sl pc ls (.int x :: .int i :: .ref k :: st) h := by
  intro p e s m args below meth c H locs lsA al0 n0 al C ha hw hl
  obtain ⟨hlt, hk⟩ := hat_some hk
  have hg : (trW g al h)[k]? = some (al k, .inl (g_c g 0, n, .inl f)) := trW_get (g := g) (al := al) hk
  show W p (g_l g) e (m_room M) s m args below meth c H locs cl sl _ (F0 m pc lsA (.int x :: .int i :: .ref (trR g al k) :: st.map (trV g al)))
  rw [trR_lt hlt]
  refine va_iast C.1 C.2.1 C.2.2.2.2.2.2.2.2.K hw.1 hw.2.1 hw.2.2 k 0 hg rfl hin hd (fun H1 locs1 hP1 hD1 hS1 => ?_)
  have e1 : trW g al (h.set k (.inl (0, n, .inl (upd f i.toNatClampNeg x)))) = (trW g al h).set k (al k, .inl (g_c g 0, n, .inl (upd f i.toNatClampNeg x))) := trW_set
  exact K p e s m args below meth c H1 locs1 lsA al0 n0 al C (agr_set ha) ⟨by rw [e1]; exact hP1, by rw [e1]; exact hD1, hS1⟩ hl
theorem aw_zast {g : Glob} {M : Mth} {Post : Option Value → AH → Prop} {cl sl pc : Nat} {ls : List (Option Value)} {st : List Value} {h : AH} {k n : Nat} {f : Nat → Int32} {i x : Int32} (hd : decode (m_cc M) pc = .ok (.bastore, 1)) (hk : hat h k = some (.inl (1, n, .inl f))) (hin : vp_in i n) (K : AW g M Post cl sl (pc + 1) ls st (h.set k (.inl (1, n, .inl (upd f i.toNatClampNeg (vp_nar .boolean x)))))) : AW g M Post cl sl pc ls (.int x :: .int i :: .ref k :: st) h := by
  intro p e s m args below meth c H locs lsA al0 n0 al C ha hw hl
  obtain ⟨hlt, hk⟩ := hat_some hk
  have hg : (trW g al h)[k]? = some (al k, .inl (g_c g 1, n, .inl f)) := trW_get (g := g) (al := al) hk
  show W p (g_l g) e (m_room M) s m args below meth c H locs cl sl _ (F0 m pc lsA (.int x :: .int i :: .ref (trR g al k) :: st.map (trV g al)))
  rw [trR_lt hlt]
  refine va_zast C.1 C.2.1 C.2.2.2.2.2.2.2.2.K hw.1 hw.2.1 hw.2.2 k 1 hg rfl hin hd (fun H1 locs1 hP1 hD1 hS1 => ?_)
  have e1 : trW g al (h.set k (.inl (1, n, .inl (upd f i.toNatClampNeg (vp_nar .boolean x))))) = (trW g al h).set k (al k, .inl (g_c g 1, n, .inl (upd f i.toNatClampNeg (vp_nar .boolean x)))) := trW_set
  exact K p e s m args below meth c H1 locs1 lsA al0 n0 al C (agr_set ha) ⟨by rw [e1]; exact hP1, by rw [e1]; exact hD1, hS1⟩ hl
theorem aw_aald {g : Glob} {M : Mth} {Post : Option Value → AH → Prop} {cl sl pc : Nat} {ls : List (Option Value)} {st : List Value} {h : AH} {k n t q : Nat} {f : Nat → Option Nat} {i : Int32} (hd : decode (m_cc M) pc = .ok (.aaload, 1)) (ht : t = 2 ∨ t = 3) (hk : hat h k = some (.inl (t, n, .inr (.inr (.inr (.inr f)))))) (hin : vp_in i n) (hq : f i.toNatClampNeg = some q) (K : AW g M Post cl sl (pc + 1) ls (.ref q :: st) h) : AW g M Post cl sl pc ls (.int i :: .ref k :: st) h := by
  intro p e s m args below meth c H locs lsA al0 n0 al C ha hw hl
  obtain ⟨hlt, hk⟩ := hat_some hk
  have hg : (trW g al h)[k]? = some (al k, .inl (g_c g t, n, .inr (.inr (.inr (.inr (fun i => if i < n then (f i).map (trR g al) else none)))))) := trW_get (g := g) (al := al) hk
  show W p (g_l g) e (m_room M) s m args below meth c H locs cl sl _ (F0 m pc lsA (.int i :: .ref (trR g al k) :: st.map (trV g al)))
  rw [trR_lt hlt]
  have hlt2 : i.toNatClampNeg < n := Nat.not_le.mp fun z => hin (Or.inr z)
  have hKK := K p e s m args below meth c H locs lsA al0 n0 al C ha hw hl
  have hA : ∀ ty, (hty : ty.isReference = true) → ArrOfT s (g_c g t) ty → W p (g_l g) e (m_room M) s m args below meth c H locs cl sl (MQ below (QC g M Post al0 n0) args s (m_mc M) (m_ms M) (g_A g)) (F0 m pc lsA (.int i :: .ref (al k) :: st.map (trV g al))) := fun ty hty hO =>
    W.aald (v := .ref (trR g al q)) (ty := ty) C.1 C.2.1 (hw.1 k _ hg) (hO n (fun j => va_rf (if j < n then (f j).map (trR g al) else none))) hty (fun z => by cases z) (by show ¬ (i < 0 ∨ (arrV _ _ _).slots.size ≤ _); rw [arrV_size]; exact hin) (by show (arrV _ _ _).slots[_]? = _; rw [arrV_read _ _ hlt2]; simp only [hlt2, if_true, hq]; rfl) rfl rfl hd hKK
  rcases ht with rfl | rfl
  · exact hA (.object "SceneShots$Scene") rfl (C.2.2.2.2.2.2.2.2.K.2 2 _ rfl).1
  · exact hA (.array .int) rfl (C.2.2.2.2.2.2.2.2.K.2 3 _ rfl).1
theorem trC_up {g : Glob} {al : Nat → Nat} {n j q : Nat} {f : Nat → Option Nat} (hj : j < n) : (fun i => if i < n then (va_up f j (some q) i).map (trR g al) else none) = va_up (fun i => if i < n then (f i).map (trR g al) else none) j (some (trR g al q)) := by
  funext i
  by_cases hi : i = j
  · subst hi
    simp [va_up, hj]
  · simp [va_up, hi]
theorem aw_aast {g : Glob} {M : Mth} {Post : Option Value → AH → Prop} {cl sl pc : Nat} {ls : List (Option Value)} {st : List Value} {h : AH} {k n q : Nat} {fs : List Value} {f : Nat → Option Nat} {i : Int32} (hd : decode (m_cc M) pc = .ok (.aastore, 1)) (hk : hat h k = some (.inl (2, n, .inr (.inr (.inr (.inr f)))))) (hin : vp_in i n) (hq : hat h q = some (.inr (3, fs))) (K : AW g M Post cl sl (pc + 1) ls st (h.set k (.inl (2, n, .inr (.inr (.inr (.inr (va_up f i.toNatClampNeg (some q))))))))) : AW g M Post cl sl pc ls (.ref q :: .int i :: .ref k :: st) h := by
  intro p e s m args below meth c H locs lsA al0 n0 al C ha hw hl
  obtain ⟨hlt, hk⟩ := hat_some hk
  obtain ⟨hlq, hq⟩ := hat_some hq
  have hg : (trW g al h)[k]? = some (al k, .inl (g_c g 2, n, .inr (.inr (.inr (.inr (fun i => if i < n then (f i).map (trR g al) else none)))))) := trW_get (g := g) (al := al) hk
  have hgq : (trW g al h)[q]? = some (al q, .inr (3, fs.map (trV g al))) := trW_get (g := g) (al := al) hq
  show W p (g_l g) e (m_room M) s m args below meth c H locs cl sl _ (F0 m pc lsA (.ref (trR g al q) :: .int i :: .ref (trR g al k) :: st.map (trV g al)))
  rw [trR_lt hlt, trR_lt hlq]
  have hlt2 : i.toNatClampNeg < n := Nat.not_le.mp fun z => hin (Or.inr z)
  refine va_astq C.1 C.2.1 C.2.2.2.2.2.2.2.2.K hw.1 hw.2.1 hw.2.2 k 2 q 3 hg (r := (RX3, TX3, 6)) rfl hgq rfl hin hd (fun H1 locs1 hP1 hD1 hS1 => ?_)
  have e1 : trW g al (h.set k (.inl (2, n, .inr (.inr (.inr (.inr (va_up f i.toNatClampNeg (some q)))))))) = (trW g al h).set k (al k, .inl (g_c g 2, n, .inr (.inr (.inr (.inr (va_up (fun i => if i < n then (f i).map (trR g al) else none) i.toNatClampNeg (some (al q)))))))) := by
    rw [trW_set]
    show (trW g al h).set k (al k, .inl (g_c g 2, n, .inr (.inr (.inr (.inr (fun i_1 => if i_1 < n then (va_up f i.toNatClampNeg (some q) i_1).map (trR g al) else none)))))) = _
    rw [trC_up hlt2, trR_lt hlq]
  exact K p e s m args below meth c H1 locs1 lsA al0 n0 al C (agr_set ha) ⟨by rw [e1]; exact hP1, by rw [e1]; exact hD1, hS1⟩ hl
theorem Bh.T {g : Glob} {s : State} (hB : Bh g s) {ty : FieldType} {t N : Nat} {f : Nat → Value} (h : va_T ty t N f (g_A g) (g_s g) (g_s g).heap) : va_T ty t N f (g_A g) s s.heap := (h.kept hB.ke).moved hB.2.2.2.alike
theorem Bh.Z {g : Glob} {s : State} (hB : Bh g s) {C n d : String} {v : Value} (h : g_Z g C n d v) : va_Z C n d v (g_A g) s s.heap := (va_Z.kept h hB.ke).moved hB.2.2.2.alike
theorem aw_roI {g : Glob} {M : Mth} {Post : Option Value → AH → Prop} {cl sl pc : Nat} {ls : List (Option Value)} {st : List Value} {h : AH} {k n : Nat} {f : Nat → Int32} {i : Int32} (hd : decode (m_cc M) pc = .ok (.iaload, 1)) (hk0 : ¬ k < 1000) (hk : roI g k = some (n, f)) (hin : vp_in i n) (K : AW g M Post cl sl (pc + 1) ls (.int (f i.toNatClampNeg) :: st) h) : AW g M Post cl sl pc ls (.int i :: .ref k :: st) h := by
  intro p e s m args below meth c H locs lsA al0 n0 al C ha hw hl
  show W p (g_l g) e (m_room M) s m args below meth c H locs cl sl _ (F0 m pc lsA (.int i :: .ref (trR g al k) :: st.map (trV g al)))
  rw [trR_ge hk0]
  exact va_ti C.1 C.2.1 (C.2.2.2.2.2.2.2.2.T (C.2.2.2.2.2.2.2.2.1.2.1 k n f hk)) hw.2.2 hin rfl hd (K p e s m args below meth c H locs lsA al0 n0 al C ha hw hl)
theorem aw_roB {g : Glob} {M : Mth} {Post : Option Value → AH → Prop} {cl sl pc : Nat} {ls : List (Option Value)} {st : List Value} {h : AH} {k n : Nat} {f : Nat → Int32} {i : Int32} (hd : decode (m_cc M) pc = .ok (.baload, 1)) (hk0 : ¬ k < 1000) (hk : roB k = some (n, f)) (hin : vp_in i n) (K : AW g M Post cl sl (pc + 1) ls (.int (f i.toNatClampNeg) :: st) h) : AW g M Post cl sl pc ls (.int i :: .ref k :: st) h := by
  intro p e s m args below meth c H locs lsA al0 n0 al C ha hw hl
  show W p (g_l g) e (m_room M) s m args below meth c H locs cl sl _ (F0 m pc lsA (.int i :: .ref (trR g al k) :: st.map (trV g al)))
  rw [trR_ge hk0]
  exact va_tb C.1 C.2.1 (C.2.2.2.2.2.2.2.2.T (C.2.2.2.2.2.2.2.2.1.2.2.1 k n f hk)) hw.2.2 hin rfl hd (K p e s m args below meth c H locs lsA al0 n0 al C ha hw hl)
theorem aw_lenI {g : Glob} {M : Mth} {Post : Option Value → AH → Prop} {cl sl pc : Nat} {ls : List (Option Value)} {st : List Value} {h : AH} {k n : Nat} {f : Nat → Int32} (hd : decode (m_cc M) pc = .ok (.arraylength, 1)) (hk0 : ¬ k < 1000) (hk : roI g k = some (n, f)) (K : AW g M Post cl sl (pc + 1) ls (.int (Int32.ofNat n) :: st) h) : AW g M Post cl sl pc ls (.ref k :: st) h := by
  intro p e s m args below meth c H locs lsA al0 n0 al C ha hw hl
  show W p (g_l g) e (m_room M) s m args below meth c H locs cl sl _ (F0 m pc lsA (.ref (trR g al k) :: st.map (trV g al)))
  rw [trR_ge hk0]
  exact va_tlen C.1 C.2.1 (C.2.2.2.2.2.2.2.2.T (C.2.2.2.2.2.2.2.2.1.2.1 k n f hk)) hw.2.2 rfl hd (K p e s m args below meth c H locs lsA al0 n0 al C ha hw hl)
theorem aw_lenB {g : Glob} {M : Mth} {Post : Option Value → AH → Prop} {cl sl pc : Nat} {ls : List (Option Value)} {st : List Value} {h : AH} {k n : Nat} {f : Nat → Int32} (hd : decode (m_cc M) pc = .ok (.arraylength, 1)) (hk0 : ¬ k < 1000) (hk : roB k = some (n, f)) (K : AW g M Post cl sl (pc + 1) ls (.int (Int32.ofNat n) :: st) h) : AW g M Post cl sl pc ls (.ref k :: st) h := by
  intro p e s m args below meth c H locs lsA al0 n0 al C ha hw hl
  show W p (g_l g) e (m_room M) s m args below meth c H locs cl sl _ (F0 m pc lsA (.ref (trR g al k) :: st.map (trV g al)))
  rw [trR_ge hk0]
  exact va_tlen C.1 C.2.1 (C.2.2.2.2.2.2.2.2.T (C.2.2.2.2.2.2.2.2.1.2.2.1 k n f hk)) hw.2.2 rfl hd (K p e s m args below meth c H locs lsA al0 n0 al C ha hw hl)
def roN (b : Nat) : String × String := match b with
  | 0 => ("value", "[B")
  | _ => ("coder", "B")
theorem roF_OF {g : Glob} (hG : GOK g) {k b : Nat} {v : Value} (hk : roF k b = some v) : ¬ k < 1000 ∧ ∀ al, va_OF "java/lang/String" (roN b).1 (roN b).2 (trV g al v) (g_a g k) (g_A g) (g_s g) (g_s g).heap := by
  obtain ⟨-, -, -, ⟨h0, h1, h2⟩, -⟩ := hG
  unfold roF at hk
  split at hk
  · cases hk; exact ⟨by decide, fun _ => h0.2.1⟩
  · cases hk; exact ⟨by decide, fun _ => h1.2.1⟩
  · cases hk; exact ⟨by decide, fun _ => h2.2.1⟩
  · cases hk; exact ⟨by decide, fun _ => h0.2.2⟩
  · cases hk; exact ⟨by decide, fun _ => h1.2.2⟩
  · cases hk; exact ⟨by decide, fun _ => h2.2.2⟩
  · cases hk
theorem aw_roF {g : Glob} {M : Mth} {Post : Option Value → AH → Prop} {cl sl pc : Nat} {ls : List (Option Value)} {st : List Value} {h : AH} {idx k b : Nat} {v : Value} (hd : decode (m_cc M) pc = .ok (.getfield idx, 3)) (hq : Cond.fieldLink (m_own M) idx "java/lang/String" (roN b).1 (roN b).2 ∈ lw_g) (hk : roF k b = some v) (K : AW g M Post cl sl (pc + 3) ls (v :: st) h) : AW g M Post cl sl pc ls (.ref k :: st) h := by
  intro p e s m args below meth c H locs lsA al0 n0 al C ha hw hl
  have hB := C.2.2.2.2.2.2.2.2
  obtain ⟨hk0, hO⟩ := roF_OF hB.1 hk
  show W p (g_l g) e (m_room M) s m args below meth c H locs cl sl _ (F0 m pc lsA (.ref (trR g al k) :: st.map (trV g al)))
  rw [trR_ge hk0]
  obtain ⟨cf, kk, fi, f, cell, h1, h2, h3, h4, h5, h6⟩ := (((hO al).kept hB.ke).moved hB.2.2.2.alike).kept hw.2.2.2.1
  exact W.getf C.1 C.2.1 C.2.2.2.2.1 (C.2.2.2.2.2.1 _ hq) h1 h2 h3 h4 (v := trV g al v) h5 rfl rfl hd (K p e s m args below meth c H locs lsA al0 n0 al C ha hw hl)
theorem aw_gsN {g : Glob} {M : Mth} {Post : Option Value → AH → Prop} {cl sl pc : Nat} {ls : List (Option Value)} {st : List Value} {h : AH} {idx : Nat} {k : Nat} {C0 n d ref host : String} (hd : decode (m_cc M) pc = .ok (.getstatic idx, 3)) (hq : Cond.fieldLinkNest (m_own M) idx C0 n d host ∈ lw_tbl) (hk0 : ¬ k < 1000) (hZ : GOK g → g_Z g C0 n d (.ref (g_a g k))) (K : AW g M Post cl sl (pc + 3) ls (.ref k :: st) h) : AW g M Post cl sl pc ls st h := by
  intro p e s m args below meth c H locs lsA al0 n0 al C ha hw hl
  have hK := K p e s m args below meth c H locs lsA al0 n0 al C ha hw hl
  have e1 : (Value.ref k :: st).map (trV g al) = .ref (g_a g k) :: st.map (trV g al) := by
    show Value.ref (trR g al k) :: _ = _
    rw [trR_ge hk0]
  rw [e1] at hK
  exact va_getsN C.1 C.2.1 (C.2.2.2.2.2.2.2.2.Z (hZ C.2.2.2.2.2.2.2.2.1)) hw.2.2 C.2.2.2.2.1 (va_Nw.use rfl ((C.2.2.2.2.2.2.2.2.1.2.2.2.2.2.2.2.2 _ hq rfl).warmF C.2.2.2.2.2.2.2.2.2.2.2)) (fun _ z => z) hd hK
theorem aw_gsI {g : Glob} {M : Mth} {Post : Option Value → AH → Prop} {cl sl pc : Nat} {ls : List (Option Value)} {st : List Value} {h : AH} {idx : Nat} {x : Int32} {C0 n d : String} (hd : decode (m_cc M) pc = .ok (.getstatic idx, 3)) (hq : Cond.fieldLink (m_own M) idx C0 n d ∈ lw_g) (hZ : GOK g → g_Z g C0 n d (.int x)) (K : AW g M Post cl sl (pc + 3) ls (.int x :: st) h) : AW g M Post cl sl pc ls st h := by
  intro p e s m args below meth c H locs lsA al0 n0 al C ha hw hl
  exact va_gets C.1 C.2.1 (C.2.2.2.2.2.2.2.2.Z (hZ C.2.2.2.2.2.2.2.2.1)) hw.2.2 C.2.2.2.2.1 (C.2.2.2.2.2.1 _ hq) (fun _ z => z) hd (K p e s m args below meth c H locs lsA al0 n0 al C ha hw hl)
theorem aw_gsF {g : Glob} {M : Mth} {Post : Option Value → AH → Prop} {cl sl pc : Nat} {ls : List (Option Value)} {st : List Value} {h : AH} {idx : Nat} (hd : decode (m_cc M) pc = .ok (.getstatic idx, 3)) (hq : Cond.fieldLink (m_own M) idx "jdk/internal/util/Preconditions" "SIOOBE_FORMATTER" "Ljava/util/function/BiFunction;" ∈ lw_g) (K1 : AW g M Post cl sl (pc + 3) ls (.null :: st) h) (K2 : AW g M Post cl sl (pc + 3) ls (.ref 1020 :: st) h) : AW g M Post cl sl pc ls st h := by
  intro p e s m args below meth c H locs lsA al0 n0 al C ha hw hl
  have hB := C.2.2.2.2.2.2.2.2
  rcases hB.1.2.2.2.2.2.2.1 with hZ | hZ
  · exact va_gets C.1 C.2.1 (hB.Z hZ) hw.2.2 C.2.2.2.2.1 (C.2.2.2.2.2.1 _ hq) (fun _ z => z) hd (K1 p e s m args below meth c H locs lsA al0 n0 al C ha hw hl)
  · exact va_gets C.1 C.2.1 (hB.Z hZ) hw.2.2 C.2.2.2.2.1 (C.2.2.2.2.2.1 _ hq) (fun _ z => z) hd (K2 p e s m args below meth c H locs lsA al0 n0 al C ha hw hl)
theorem aw_ldcS {g : Glob} {M : Mth} {Post : Option Value → AH → Prop} {cl sl pc : Nat} {ls : List (Option Value)} {st : List Value} {h : AH} {idx k : Nat} {tx : String} (hd : decode (m_cc M) pc = .ok (.ldc idx, 2)) (hk0 : ¬ k < 1000) (hZ : GOK g → vk_R (m_own M) idx tx (g_a g k) (g_s g)) (K : AW g M Post cl sl (pc + 2) ls (.ref k :: st) h) : AW g M Post cl sl pc ls st h := by
  intro p e s m args below meth c H locs lsA al0 n0 al C ha hw hl
  have hB := C.2.2.2.2.2.2.2.2
  have hK := K p e s m args below meth c H locs lsA al0 n0 al C ha hw hl
  have e1 : (Value.ref k :: st).map (trV g al) = .ref (g_a g k) :: st.map (trV g al) := by
    show Value.ref (trR g al k) :: _ = _
    rw [trR_ge hk0]
  rw [e1] at hK
  exact va_ldcS C.1 C.2.1 C.2.2.2.2.1 ((hZ hB.1).warm hB.2.2.2) hd hK
theorem aw_tsw {g : Glob} {M : Mth} {Post : Option Value → AH → Prop} {cl sl pc : Nat} {ls : List (Option Value)} {st : List Value} {h : AH} {dflt lo hi : Int} {offs : Array Int} {len : Nat} {x : Int32} {t : Nat} (hd : decode (m_cc M) pc = .ok (.tableswitch dflt lo hi offs, len)) (ht : (pc : Int) + dflt = (t : Int)) (K1 : x.toInt < lo ∨ hi < x.toInt → AW g M Post cl sl t ls st h) (K2 : ¬ x.toInt < lo → ¬ hi < x.toInt → ∃ (off : Int) (u : Nat), offs[(x.toInt - lo).toNat]? = some off ∧ (pc : Int) + off = (u : Int) ∧ AW g M Post cl sl u ls st h) : AW g M Post cl sl pc ls (.int x :: st) h := by
  intro p e s m args below meth c H locs lsA al0 n0 al C ha hw hl
  by_cases hx : x.toInt < lo ∨ hi < x.toInt
  · exact lv_tableOut C.1 C.2.1 hd hx ht (K1 hx p e s m args below meth c H locs lsA al0 n0 al C ha hw hl)
  · have h1 : ¬ x.toInt < lo := fun z => hx (Or.inl z)
    have h2 : ¬ hi < x.toInt := fun z => hx (Or.inr z)
    obtain ⟨off, u, ho, hu, K⟩ := K2 h1 h2
    exact lv_tableIn C.1 C.2.1 hd h1 h2 ho hu (K p e s m args below meth c H locs lsA al0 n0 al C ha hw hl)
theorem aw_zret {g : Glob} {M : Mth} {Post : Option Value → AH → Prop} {cl sl pc : Nat} {ls : List (Option Value)} {st : List Value} {h : AH} {ty : FieldType} {v : Int32} (hd : decode (m_cc M) pc = .ok (.ireturn, 1)) (hr : m_ret M = some ty) (hn : narrow ty (.int v) = .int v) (hc : cl ≤ m_mc M) (hs : sl ≤ m_ms M) (hP : Post (some (.int v)) h) : AW g M Post cl sl pc ls [.int v] h := by
  intro p e s m args below meth c H locs lsA al0 n0 al C ha hw hl
  refine W.widen (k := m_mc M) (n := m_ms M) hc hs ?_
  exact W.zret C.1 C.2.1 (C.2.2.1.trans hr) hn (fun t ht hW => ⟨some (.int v), h, al, rfl, hP, ha, by rw [ht]; exact hw.1, hw.2.1, hw.2.2.F ht⟩) hw.2.2.2.2 hd C.2.2.2.2.2.2.1
theorem aw_vret {g : Glob} {M : Mth} {Post : Option Value → AH → Prop} {cl sl pc : Nat} {ls : List (Option Value)} {st : List Value} {h : AH} (hd : decode (m_cc M) pc = .ok (.return_, 1)) (hr : m_ret M = none) (hc : cl ≤ m_mc M) (hs : sl ≤ m_ms M) (hP : Post none h) : AW g M Post cl sl pc ls [] h := by
  intro p e s m args below meth c H locs lsA al0 n0 al C ha hw hl
  refine W.widen (k := m_mc M) (n := m_ms M) hc hs ?_
  exact W.vret C.1 C.2.1 (C.2.2.1.trans hr) (fun t ht hW => ⟨none, h, al, rfl, hP, ha, by rw [ht]; exact hw.1, hw.2.1, hw.2.2.F ht⟩) hw.2.2.2.2 hd C.2.2.2.2.2.2.1
theorem aw_lret {g : Glob} {M : Mth} {Post : Option Value → AH → Prop} {cl sl pc : Nat} {ls : List (Option Value)} {st : List Value} {h : AH} {v : Int64} (hd : decode (m_cc M) pc = .ok (.lreturn, 1)) (hr : m_ret M = some .long) (hc : cl ≤ m_mc M) (hs : sl ≤ m_ms M) (hP : Post (some (.long v)) h) : AW g M Post cl sl pc ls [.long v] h := by
  intro p e s m args below meth c H locs lsA al0 n0 al C ha hw hl
  refine W.widen (k := m_mc M) (n := m_ms M) hc hs ?_
  exact W.lret C.1 C.2.1 (C.2.2.1.trans hr) (fun t ht hW => ⟨some (.long v), h, al, rfl, hP, ha, by rw [ht]; exact hw.1, hw.2.1, hw.2.2.F ht⟩) hw.2.2.2.2 hd C.2.2.2.2.2.2.1
theorem aw_fret {g : Glob} {M : Mth} {Post : Option Value → AH → Prop} {cl sl pc : Nat} {ls : List (Option Value)} {st : List Value} {h : AH} {v : UInt32} (hd : decode (m_cc M) pc = .ok (.freturn, 1)) (hr : m_ret M = some .float) (hc : cl ≤ m_mc M) (hs : sl ≤ m_ms M) (hP : Post (some (.float v)) h) : AW g M Post cl sl pc ls [.float v] h := by
  intro p e s m args below meth c H locs lsA al0 n0 al C ha hw hl
  refine W.widen (k := m_mc M) (n := m_ms M) hc hs ?_
  exact W.fret C.1 C.2.1 (C.2.2.1.trans hr) (fun t ht hW => ⟨some (.float v), h, al, rfl, hP, ha, by rw [ht]; exact hw.1, hw.2.1, hw.2.2.F ht⟩) hw.2.2.2.2 hd C.2.2.2.2.2.2.1
end
section
theorem gd_w {w : Cond} (h : w ∈ lw_g) : w ∈ lw_g ∧ ((w.onTables && w.keeps) = true ∨ ∃ ty, w = .arrayClass ty) := ⟨h, good_of_word (List.mem_filter.mp h).2⟩
theorem gd_ws {M : Mth} (hc : Cond.code (m_y M) (m_cc M) (m_nL M) (m_ret M) ∈ lw_g) : GoodIn lw_g (m_ws M) := by
  intro w hw
  rcases List.mem_cons.mp hw with rfl | hw
  · exact gd_w hc
  · exact gd_w hw
theorem gd_l4 {w1 w2 w3 w4 : Cond} {ws : List Cond} (h1 : w1 ∈ lw_g) (h2 : w2 ∈ lw_g) (h3 : w3 ∈ lw_g) (h4 : w4 ∈ lw_g) (hw : GoodIn lw_g ws) : GoodIn lw_g ([w1, w2, w3, w4] ++ ws) := by
  intro w hm
  rcases List.mem_append.mp hm with hm | hm
  · simp only [List.mem_cons, List.not_mem_nil, or_false] at hm
    rcases hm with rfl | rfl | rfl | rfl
    · exact gd_w h1
    · exact gd_w h2
    · exact gd_w h3
    · exact gd_w h4
  · exact hw w hm
theorem gd_l3 {w1 w2 w3 : Cond} {ws : List Cond} (h1 : w1 ∈ lw_g) (h2 : w2 ∈ lw_g) (h3 : w3 ∈ lw_g) (hw : GoodIn lw_g ws) : GoodIn lw_g ([w1, w2, w3] ++ ws) := by
  intro w hm
  rcases List.mem_append.mp hm with hm | hm
  · simp only [List.mem_cons, List.not_mem_nil, or_false] at hm
    rcases hm with rfl | rfl | rfl
    · exact gd_w h1
    · exact gd_w h2
    · exact gd_w h3
  · exact hw w hm
/-! other addresses for new places -/
theorem okV_tr {g : Glob} {al al' : Nat → Nat} {n : Nat} (hn : n ≤ 1000) (hal : ∀ k, k < n → al' k = al k) {v : Value} (h : okV n v = true) : trV g al' v = trV g al v := by
  cases v <;> try rfl
  rename_i k
  show Value.ref (trR g al' k) = Value.ref (trR g al k)
  have h1 : k < n ∨ 1000 ≤ k := by
    simp only [okV, Bool.or_eq_true] at h
    rcases h with h | h
    · exact Or.inl (Nat.le_of_ble_eq_true h)
    · exact Or.inr (Nat.le_of_ble_eq_true h)
  rcases h1 with h1 | h1
  · rw [trR_lt (Nat.lt_of_lt_of_le h1 hn), trR_lt (Nat.lt_of_lt_of_le h1 hn), hal k h1]
  · rw [trR_ge (Nat.not_lt.mpr h1), trR_ge (Nat.not_lt.mpr h1)]
theorem okR_tr {g : Glob} {al al' : Nat → Nat} {n : Nat} (hn : n ≤ 1000) (hal : ∀ k, k < n → al' k = al k) {o : Option Nat} (h : okR n o = true) : o.map (trR g al') = o.map (trR g al) := by
  cases o with
  | none => rfl
  | some k =>
    have h1 : k < n ∨ 1000 ≤ k := by
      simp only [okR, Bool.or_eq_true] at h
      rcases h with h | h
      · exact Or.inl (Nat.le_of_ble_eq_true h)
      · exact Or.inr (Nat.le_of_ble_eq_true h)
    show some (trR g al' k) = some (trR g al k)
    rcases h1 with h1 | h1
    · rw [trR_lt (by omega), trR_lt (by omega), hal k h1]
    · rw [trR_ge (by omega), trR_ge (by omega)]
theorem okS_tr {g : Glob} {al al' : Nat → Nat} {n : Nat} (hn : n ≤ 1000) (hal : ∀ k, k < n → al' k = al k) {st : List Value} (h : okS n st = true) : st.map (trV g al') = st.map (trV g al) :=
  List.map_congr_left (fun v hv => okV_tr hn hal (List.all_eq_true.mp h v hv))
theorem okL_tr {g : Glob} {al al' : Nat → Nat} {n : Nat} (hn : n ≤ 1000) (hal : ∀ k, k < n → al' k = al k) {ls : List (Option Value)} (h : okL n ls = true) {lsA : Array Slot} {nL : Nat} (hl : LH g al lsA nL ls) : LH g al' lsA nL ls := by
  refine ⟨hl.1, hl.2.1, fun k v hk => ?_⟩
  rw [okV_tr hn hal (List.all_eq_true.mp h (some v) (List.mem_of_getElem? hk))]
  exact hl.2.2 k v hk
theorem okE_tr {g : Glob} {al al' : Nat → Nat} {n : Nat} (hn : n ≤ 1000) (hal : ∀ k, k < n → al' k = al k) {e : va_E} (h : okE n e = true) : trE g al' e = trE g al e := by
  rcases e with ⟨t, m, c⟩ | ⟨ci, fs⟩
  · rcases c with f | f | f | f | f
    · rfl
    · rfl
    · rfl
    · rfl
    · show Sum.inl (g_c g t, m, Sum.inr (Sum.inr (Sum.inr (Sum.inr (fun i => if i < m then (f i).map (trR g al') else none))))) = Sum.inl (g_c g t, m, Sum.inr (Sum.inr (Sum.inr (Sum.inr (fun i => if i < m then (f i).map (trR g al) else none)))))
      have e1 : (fun i => if i < m then (f i).map (trR g al') else none) = (fun i => if i < m then (f i).map (trR g al) else none) := by
        funext i
        by_cases hi : i < m
        · rw [if_pos hi, if_pos hi]
          exact okR_tr hn hal (List.all_eq_true.mp h i (List.mem_range.mpr hi))
        · rw [if_neg hi, if_neg hi]
      rw [e1]
  · show Sum.inr (ci, fs.map (trV g al')) = Sum.inr (ci, fs.map (trV g al))
    rw [okS_tr hn hal h]
theorem okW_tr {g : Glob} {al al' : Nat → Nat} {h : AH} (hok : okH h = true) (hal : ∀ k, k < h.length → al' k = al k) : trW g al' h = trW g al h := by
  simp only [okH, Bool.and_eq_true] at hok
  have hn : h.length ≤ 900 := Nat.le_of_ble_eq_true hok.1
  apply List.ext_getElem?
  intro j
  unfold trW
  rw [List.getElem?_mapIdx, List.getElem?_mapIdx]
  cases hj : h[j]? with
  | none => rfl
  | some e =>
    have hlt : j < h.length := (List.getElem?_eq_some_iff.mp hj).1
    show some (al' j, trE g al' e) = some (al j, trE g al e)
    rw [hal j hlt, okE_tr (by omega) hal (List.all_eq_true.mp hok.2 e (List.mem_of_getElem? hj))]
theorem trW_app {g : Glob} {al : Nat → Nat} {h h2 : AH} : trW g al (h ++ h2) = trW g al h ++ h2.mapIdx (fun k e => (al (k + h.length), trE g al e)) := by
  unfold trW
  rw [List.mapIdx_append]
theorem trW_len {g : Glob} {al : Nat → Nat} {h : AH} : (trW g al h).length = h.length := by unfold trW; rw [List.length_mapIdx]

/-- behind a call -/
theorem aw_after {g : Glob} {M : Mth} {Post : Option Value → AH → Prop} {cl sl pc : Nat} {ls : List (Option Value)} {st : List Value} {h : AH} {M' : Mth} {Post' : Option Value → AH → Prop} {p : Program} {e : Env} {s : State} {m : MethodId} {args : Array Value} {below : List Frame} {meth : Method} {c : Code} {H : Heap} {locs : List Loc} {lsA : Array Slot} {al0 : Nat → Nat} {n0 : Nat} {al : Nat → Nat} {st0 : List Value} {a9 : Array Value}
    (C : Cx g M p s m args meth c) (ha : agr M al0 n0 al h.length) (hw : Wd g al h s H locs) (hl : LH g al lsA (m_nL M) ls)
    (hr : va_Run p (g_l g) e (m_room M) s m args below meth c H locs cl sl (m_mc M') (m_ms M') (F0 m pc lsA st0) (st.map (trV g al)) (QC g M' Post' al h.length a9) (g_A g))
    (hm : cl + m_mc M' ≤ m_mc M) (hok : m_mc M' = 0 ∨ (h.length ≤ 1000 ∧ okS h.length st = true ∧ okL h.length ls = true))
    (K : ∀ rv h', Post' rv h' → AW g M Post (cl + m_mc M') (sl + m_ms M') (pc + 3) ls (rv.toList ++ st) h') :
    W p (g_l g) e (m_room M) s m args below meth c H locs cl sl (MQ below (QC g M Post al0 n0) args s (m_mc M) (m_ms M) (g_A g)) (F0 m pc lsA st0) := by
  intro T hT X
  obtain ⟨v, s9, t, T', L, h0, X', hL, e1, e2, ⟨rv, h', al', hv, hp, hg', hP', hD', hz, hk⟩, stp⟩ := hr T hT X
  cases hv
  rw [h0] at hz hk
  have hal : ∀ k, k < h.length → al' k = al k := hg'.2.1
  have est : st.map (trV g al') = st.map (trV g al) := by
    rcases hok with h1 | ⟨h1, h2, -⟩
    · rw [hg'.1 h1]
    · exact okS_tr h1 hal h2
  have hl' : LH g al' lsA (m_nL M) ls := by
    rcases hok with h1 | ⟨h1, -, h2⟩
    · rw [hg'.1 h1]; exact hl
    · exact okL_tr h1 hal h2 hl
  have ha' : agr M al0 n0 al' h'.length := by
    refine ⟨fun h1 => ?_, fun k hk => ?_, Nat.le_trans ha.2.2 hg'.2.2⟩
    · rw [hg'.1 (by omega), ha.1 h1]
    · rw [hal k (Nat.lt_of_lt_of_le hk ha.2.2), ha.2.1 k hk]
  obtain ⟨t2, a1, b1⟩ := K rv h' hp p e s m args below meth c T'.heap (locs ++ L) lsA al0 n0 al' C ha' ⟨by rw [e1]; exact hP', hD', Nat.le_trans hw.2.2.1 (by rw [e1]; exact hz), fun q h1 h2 => by rw [e1, hk q (Nat.lt_of_lt_of_le h1 hw.2.2.1) h2]; exact hw.2.2.2.1 q h1 h2, fun q hq => by
      rcases List.mem_append.mp hq with hq | hq
      · exact hw.2.2.2.2 q hq
      · exact hL q hq⟩ hl' T' rfl X'
  refine ⟨t2, stp t2 ?_, b1⟩
  have es : (rv.toList ++ st).map (trV g al') = (rv.map (trV g al')).toList ++ st.map (trV g al) := by
    rw [List.map_append, est]
    cases rv <;> rfl
  rw [es] at a1
  exact a1
theorem PU_of {g : Glob} {al : Nat → Nat} {h : AH} {s U : State} {H : Heap} {locs : List Loc} (hB : Bh g s) (hw : Wd g al h s H locs) (hU : U.heap = H) (hW : s.WarmedH U.vm) : PU g al h U := by
  refine ⟨⟨hB.1, ?_, fun q hq => ?_, hB.2.2.2.trans hW⟩, by rw [hU]; exact hw.1, hw.2.1⟩
  · rw [hU]; exact Nat.le_trans hB.2.1 hw.2.2.1
  · rw [hU, hw.2.2.2.1 q (Nat.lt_of_lt_of_le hq hB.2.1) (Nat.not_le.mpr hq)]
    exact hB.2.2.1 q hq
theorem PU_blind {g : Glob} {al : Nat → Nat} {h : AH} {av : List Value} : FrameBlind (va_Pc av (PU g al h)) := fun _ _ _ _ q => q
/-- what a call needs of its callee's words -/
def MOK (M : Mth) : Prop := Cond.code (m_y M) (m_cc M) (m_nL M) (m_ret M) ∈ lw_g ∧ Cond.initialized (m_y M).cls ∈ lw_g ∧ ((m_y M).cls ≠ "java/lang/invoke/MethodHandle" ∧ (m_y M).cls ≠ "java/lang/invoke/VarHandle" ∧ (parseMethodDescriptor (m_y M).desc).map (fun d => d.parameters.length) = some (m_np M))
def ROK (M M' : Mth) : Prop := m_dep M' + 1 ≤ m_dep M ∧ 8 + (m_nL M' + 11) + 40 * m_dep M' ≤ 40 * m_dep M
theorem map_rev {g : Glob} {al : Nat → Nat} {As st : List Value} : (As.reverse ++ st).map (trV g al) = (As.map (trV g al)).reverse ++ st.map (trV g al) := by rw [List.map_append, List.map_reverse]
theorem cat_sum {g : Glob} {al : Nat → Nat} {st : List Value} (h : (st.map fun v => v.category).sum ≤ 8) : ((st.map (trV g al)).map fun v => v.category).sum ≤ 8 := by
  rw [List.map_map, show ((fun v : Value => v.category) ∘ trV g al) = (fun v => v.category) from funext (fun v => trV_cat g al v)]
  exact h
theorem aw_callV {g : Glob} {M : Mth} {Post : Option Value → AH → Prop} {cl sl pc : Nat} {ls : List (Option Value)} {st : List Value} {h : AH} {M' : Mth} {idx b : Nat} {As : List Value} (hd : decode (m_cc M) pc = .ok (.invokevirtual idx, 3)) (hM : MOK M') (hR : ROK M M') (hq : Cond.methodLink (m_own M) idx (m_y M') ∈ lw_g) (hi : Cond.instanceMethod (m_y M') ∈ lw_g) (hse : Cond.selects (m_y M').cls (m_y M') (m_y M') ∈ lw_g)
    (hrec : (∃ a fs, a < 7 ∧ hat h b = some (.inr (a, fs)) ∧ ctR a = (m_y M').cls) ∨ ((b = 1000 ∨ b = 1001 ∨ b = 1002) ∧ (m_y M').cls = "java/lang/String"))
    (hn : As.length = m_np M') (hcat : (st.map fun v => v.category).sum ≤ 8) (hm : cl + m_mc M' ≤ m_mc M ∧ sl + m_ms M' ≤ m_ms M) (hok : m_mc M' = 0 ∨ (h.length ≤ 1000 ∧ okS h.length st = true ∧ okL h.length ls = true))
    (K : AC g M' (.ref b :: As) h (fun rv h' => AW g M Post (cl + m_mc M') (sl + m_ms M') (pc + 3) ls (rv.toList ++ st) h')) : AW g M Post cl sl pc ls (As.reverse ++ .ref b :: st) h := by
  intro p e s m args below meth c H locs lsA al0 n0 al C ha hw hl
  have hB := C.2.2.2.2.2.2.2.2
  have hcell : ∃ cellB : Cell, H[trR g al b]? = some cellB ∧ cellB.vm.isStatics = false ∧ s.vm.findClass (m_y M').cls = some cellB.cls := by
    rcases hrec with ⟨a, fs, h7, hb, hC⟩ | ⟨hb, hC⟩
    · obtain ⟨hlt, hb⟩ := hat_some hb
      rw [trR_lt hlt]
      obtain ⟨cell, z1, z2, z3⟩ := va_recv hB.K hw.1 (ct_cl h7) (trW_get hb)
      exact ⟨cell, z1, z2, by rw [← hC]; exact z3⟩
    · have hO : ∀ k j, g_O g k j → ¬ k < 1000 → ∃ cellB : Cell, H[trR g al k]? = some cellB ∧ cellB.vm.isStatics = false ∧ s.vm.findClass (m_y M').cls = some cellB.cls := by
        intro k j hO hk
        rw [trR_ge hk, hC]
        exact va_Orecv ((hO.1.kept hB.ke).moved hB.2.2.2.alike) hw.2.2
      obtain ⟨o0, o1, o2⟩ := hB.1.2.2.2.1
      rcases hb with rfl | rfl | rfl
      · exact hO _ _ o0 (by decide)
      · exact hO _ _ o1 (by decide)
      · exact hO _ _ o2 (by decide)
  refine aw_after C ha hw hl (va_runV (As := As.map (trV g al)) ⟨C.1, C.2.1, C.2.2.2.1, C.2.2.2.2.1, C.2.2.2.2.2.1⟩ (K al) (cwV (m_np M') C.2.2.2.2.2.1 (gd_l4 hq hi hse hM.2.1 (gd_ws hM.1)) rfl rfl rfl ⟨rfl, hM.2.2⟩ hR) ⟨PU_blind, hcell, fun U hU hW => ⟨rfl, PU_of hB hw hU hW⟩⟩ rfl (by rw [List.length_map]; exact hn) hl.1 map_rev (lv_room (cat_sum hcat)) hd hm) hm.1 hok (fun rv h' z => z)
theorem aw_callS {g : Glob} {M : Mth} {Post : Option Value → AH → Prop} {cl sl pc : Nat} {ls : List (Option Value)} {st : List Value} {h : AH} {M' : Mth} {idx : Nat} {As : List Value} (hd : decode (m_cc M) pc = .ok (.invokestatic idx, 3)) (hM : MOK M') (hR : ROK M M') (hq : Cond.methodLink (m_own M) idx (m_y M') ∈ lw_g) (hi : Cond.static (m_y M') ∈ lw_g)
    (hn : As.length = m_np M') (hcat : (st.map fun v => v.category).sum ≤ 8) (hm : cl + m_mc M' ≤ m_mc M ∧ sl + m_ms M' ≤ m_ms M) (hok : m_mc M' = 0 ∨ (h.length ≤ 1000 ∧ okS h.length st = true ∧ okL h.length ls = true))
    (K : AC g M' As h (fun rv h' => AW g M Post (cl + m_mc M') (sl + m_ms M') (pc + 3) ls (rv.toList ++ st) h')) : AW g M Post cl sl pc ls (As.reverse ++ st) h := by
  intro p e s m args below meth c H locs lsA al0 n0 al C ha hw hl
  have hB := C.2.2.2.2.2.2.2.2
  refine aw_after C ha hw hl (va_runS (As := As.map (trV g al)) ⟨C.1, C.2.1, C.2.2.2.1, C.2.2.2.2.1, C.2.2.2.2.2.1⟩ (K al) (va_cwS (m_np M') C.2.2.2.2.2.1 (gd_l3 hq hi hM.2.1 (gd_ws hM.1)) rfl rfl rfl hM.2.2 hR) ⟨PU_blind, fun U hU hW => ⟨rfl, PU_of hB hw hU hW⟩⟩ rfl (by rw [List.length_map]; exact hn) hl.1 map_rev (lv_room (cat_sum hcat)) hd hm) hm.1 hok (fun rv h' z => z)
theorem aw_callI {g : Glob} {M : Mth} {Post : Option Value → AH → Prop} {cl sl pc : Nat} {ls : List (Option Value)} {st : List Value} {h : AH} {M' : Mth} {idx b : Nat} {As : List Value} (hd : decode (m_cc M) pc = .ok (.invokespecial idx, 3)) (hM : MOK M') (hR : ROK M M') (hq : Cond.methodLink (m_own M) idx (m_y M') ∈ lw_g ∨ ∃ host, Cond.methodLinkNest (m_own M) idx (m_y M') host ∈ lw_tbl) (hi : Cond.instanceMethod (m_y M') ∈ lw_g) (hy : (m_y M').name = "<init>") (hr0 : m_ret M' = none)
    (hn : As.length = m_np M') (hcat : (st.map fun v => v.category).sum ≤ 8) (hm : cl + m_mc M' ≤ m_mc M ∧ sl + m_ms M' ≤ m_ms M) (hok : m_mc M' = 0 ∨ (h.length ≤ 1000 ∧ okS h.length st = true ∧ okL h.length ls = true))
    (K : AC g M' (.ref b :: As) h (fun rv h' => AW g M Post (cl + m_mc M') (sl + m_ms M') (pc + 3) ls (rv.toList ++ st) h')) : AW g M Post cl sl pc ls (As.reverse ++ .ref b :: st) h := by
  intro p e s m args below meth c H locs lsA al0 n0 al C ha hw hl
  have hB := C.2.2.2.2.2.2.2.2
  have hws : m_ws M' = Cond.code (m_y M') (m_cc M') (m_nL M') none :: lw_g := by unfold m_ws; rw [hr0]
  rcases hq with hq | ⟨host, hq⟩
  · refine aw_after C ha hw hl (va_runI (As := As.map (trV g al)) ⟨C.1, C.2.1, C.2.2.2.1, C.2.2.2.2.1, C.2.2.2.2.2.1⟩ (K al) (cwI (m_np M') C.2.2.2.2.2.1 (gd_ws hM.1) hws rfl rfl (C.2.2.2.2.2.1 _ hM.2.1) (C.2.2.2.2.2.1 _ hq) (C.2.2.2.2.2.1 _ hi) hy hM.2.2 hR) ⟨PU_blind, fun U hU hW => ⟨rfl, PU_of hB hw hU hW⟩⟩ rfl (by rw [List.length_map]; exact hn) hl.1 map_rev (lv_room (cat_sum hcat)) hd hm) hm.1 hok (fun rv h' z => z)
  · refine aw_after C ha hw hl (va_runIN (As := As.map (trV g al)) ⟨C.1, C.2.1, C.2.2.2.1, C.2.2.2.2.1, C.2.2.2.2.2.1⟩ (K al) ⟨va_cnB (m_np M') C.2.2.2.2.2.1 (gd_ws hM.1) hws rfl rfl ((hB.1.2.2.2.2.2.2.2.2 _ hq rfl).warmM hB.2.2.2) (C.2.2.2.2.2.1 _ hM.2.1) hM.2.2 hR, hy, C.2.2.2.2.2.1 _ hi⟩ ⟨PU_blind, fun U hU hW => ⟨rfl, PU_of hB hw hU hW⟩⟩ rfl (by rw [List.length_map]; exact hn) hl.1 map_rev (lv_room (cat_sum hcat)) hd hm) hm.1 hok (fun rv h' z => z)
theorem q_obj : Cond.instanceMethod Lib.objectInit ∈ lw_g ∧ Cond.code Lib.objectInit ⟨#[0xb1]⟩ 1 none ∈ lw_g := by decide +kernel
theorem aw_obj {g : Glob} {M : Mth} {Post : Option Value → AH → Prop} {cl sl pc : Nat} {ls : List (Option Value)} {st : List Value} {h : AH} {idx b : Nat} (hd : decode (m_cc M) pc = .ok (.invokespecial idx, 3)) (hq : Cond.methodLink (m_own M) idx Lib.objectInit ∈ lw_g) (hdep : 1 ≤ m_dep M) (hcat : (st.map fun v => v.category).sum ≤ 8) (K : AW g M Post cl sl (pc + 3) ls st h) : AW g M Post cl sl pc ls (.ref b :: st) h := by
  intro p e s m args below meth c H locs lsA al0 n0 al C ha hw hl
  have hcs := cat_sum (g := g) (al := al) hcat
  refine W.objInit C.1 C.2.1 C.2.2.2.2.1 (C.2.2.2.2.2.1 _ hq) (C.2.2.2.2.2.1 _ q_obj.1) (C.2.2.2.2.2.1 _ q_obj.2) rfl (hl.1.trans C.2.2.2.1.symm) rfl hd hdep (by show 2 * 0 + ((st.map (trV g al)).map fun v => v.category).sum + 12 ≤ 40 * m_dep M; omega) ?_
  exact K p e s m args below meth c H locs lsA al0 n0 al C ha hw hl
theorem q_abs : Cond.static Lib.Math.abs.name ∈ lw_g ∧ Cond.initialized "java/lang/Math" ∈ lw_g ∧ Cond.code Lib.Math.abs.name Lib.Math.abs.code 1 (some .int) ∈ lw_g := by decide +kernel
theorem q_min : Cond.static Lib.Math.min.name ∈ lw_g ∧ Cond.code Lib.Math.min.name Lib.Math.min.code 2 (some .int) ∈ lw_g := by decide +kernel
theorem q_cpy : Cond.native arraycopyName ∈ lw_g ∧ Cond.static arraycopyName ∈ lw_g ∧ Cond.initialized "java/lang/System" ∈ lw_g := by decide +kernel
theorem aw_abs {g : Glob} {M : Mth} {Post : Option Value → AH → Prop} {cl sl pc : Nat} {ls : List (Option Value)} {st : List Value} {h : AH} {idx : Nat} {x : Int32} (hd : decode (m_cc M) pc = .ok (.invokestatic idx, 3)) (hq : Cond.methodLink (m_own M) idx Lib.Math.abs.name ∈ lw_g) (hdep : 1 ≤ m_dep M) (hcat : (st.map fun v => v.category).sum ≤ 8) (hm : cl ≤ m_mc M ∧ sl ≤ m_ms M) (K : AW g M Post cl sl (pc + 3) ls (.int (if 0 ≤ x then x else 0 - x) :: st) h) : AW g M Post cl sl pc ls (.int x :: st) h := by
  intro p e s m args below meth c H locs lsA al0 n0 al C ha hw hl
  have hcs := cat_sum (g := g) (al := al) hcat
  exact va_mabs C.1 C.2.1 (C.2.2.2.1.trans hl.1.symm) C.2.2.2.2.1 (C.2.2.2.2.2.1 _ hq) (C.2.2.2.2.2.1 _ q_abs.1) (C.2.2.2.2.2.1 _ q_abs.2.1) (C.2.2.2.2.2.1 _ q_abs.2.2) hdep (by show _ ≤ 40 * m_dep M; omega) hm.1 hm.2 hd (K p e s m args below meth c H locs lsA al0 n0 al C ha hw hl)
theorem aw_min {g : Glob} {M : Mth} {Post : Option Value → AH → Prop} {cl sl pc : Nat} {ls : List (Option Value)} {st : List Value} {h : AH} {idx : Nat} {x y : Int32} (hd : decode (m_cc M) pc = .ok (.invokestatic idx, 3)) (hq : Cond.methodLink (m_own M) idx Lib.Math.min.name ∈ lw_g) (hdep : 1 ≤ m_dep M) (hcat : (st.map fun v => v.category).sum ≤ 8) (hm : cl ≤ m_mc M ∧ sl ≤ m_ms M) (K : AW g M Post cl sl (pc + 3) ls (.int (if y < x then y else x) :: st) h) : AW g M Post cl sl pc ls (.int y :: .int x :: st) h := by
  intro p e s m args below meth c H locs lsA al0 n0 al C ha hw hl
  have hcs := cat_sum (g := g) (al := al) hcat
  exact va_mmin C.1 C.2.1 (C.2.2.2.1.trans hl.1.symm) C.2.2.2.2.1 (C.2.2.2.2.2.1 _ hq) (C.2.2.2.2.2.1 _ q_min.1) (C.2.2.2.2.2.1 _ q_abs.2.1) (C.2.2.2.2.2.1 _ q_min.2) hdep (by show _ ≤ 40 * m_dep M; omega) hm.1 hm.2 hd (K p e s m args below meth c H locs lsA al0 n0 al C ha hw hl)
theorem aw_cpy {g : Glob} {M : Mth} {Post : Option Value → AH → Prop} {cl sl pc : Nat} {ls : List (Option Value)} {st : List Value} {h : AH} {idx k0 k1 n0 n1 : Nat} {f0 f1 : Nat → Int32} {sp dp n : Int32} (hd : decode (m_cc M) pc = .ok (.invokestatic idx, 3)) (hq : Cond.methodLink (m_own M) idx arraycopyName ∈ lw_g) (hdep : 1 ≤ m_dep M) (hcat : (st.map fun v => v.category).sum ≤ 8) (hk0 : hat h k0 = some (.inl (0, n0, .inl f0))) (hk1 : hat h k1 = some (.inl (0, n1, .inl f1))) (h1 : ¬ sp < 0) (h2 : ¬ dp < 0) (h3 : ¬ n < 0) (h4 : sp.toNatClampNeg + n.toNatClampNeg ≤ n0) (h5 : dp.toNatClampNeg + n.toNatClampNeg ≤ n1)
    (K : AW g M Post cl sl (pc + 3) ls st (h.set k1 (.inl (0, n1, .inl (va_cpy f0 f1 sp.toNatClampNeg dp.toNatClampNeg n.toNatClampNeg))))) : AW g M Post cl sl pc ls (.int n :: .int dp :: .ref k1 :: .int sp :: .ref k0 :: st) h := by
  intro p e s m args below meth c H locs lsA al0 m0 al C ha hw hl
  have hcs := cat_sum (g := g) (al := al) hcat
  obtain ⟨hlt0, hk0⟩ := hat_some hk0
  obtain ⟨hlt1, hk1⟩ := hat_some hk1
  have hg0 : (trW g al h)[k0]? = some (al k0, .inl (g_c g 0, n0, .inl f0)) := trW_get hk0
  have hg1 : (trW g al h)[k1]? = some (al k1, .inl (g_c g 0, n1, .inl f1)) := trW_get hk1
  show W p (g_l g) e (m_room M) s m args below meth c H locs cl sl _ (F0 m pc lsA (.int n :: .int dp :: .ref (trR g al k1) :: .int sp :: .ref (trR g al k0) :: st.map (trV g al)))
  rw [trR_lt hlt0, trR_lt hlt1]
  refine va_copyi C.1 C.2.1 (C.2.2.2.1.trans hl.1.symm) C.2.2.2.2.1 (C.2.2.2.2.2.1 _ hq) (C.2.2.2.2.2.1 _ q_cpy.1) (C.2.2.2.2.2.1 _ q_cpy.2.1) (C.2.2.2.2.2.1 _ q_cpy.2.2) C.2.2.2.2.2.2.2.2.K hw.1 hw.2.1 hw.2.2 k0 k1 0 0 hg0 hg1 rfl rfl rfl h1 h2 h3 h4 h5 (fun _ _ => rfl) hdep (by
    have e9 : nativeFrameWords "java/lang/System" "arraycopy" 5 + 11 ≤ 32 := by decide +kernel
    show _ ≤ 40 * m_dep M
    omega) hd (fun H1 locs1 hP1 hD1 hS1 => ?_)
  have e1 : trW g al (h.set k1 (.inl (0, n1, .inl (va_cpy f0 f1 sp.toNatClampNeg dp.toNatClampNeg n.toNatClampNeg)))) = (trW g al h).set k1 (al k1, .inl (g_c g 0, n1, .inl (va_cpy f0 f1 sp.toNatClampNeg dp.toNatClampNeg n.toNatClampNeg))) := trW_set
  exact K p e s m args below meth c H1 locs1 lsA al0 m0 al C (agr_set ha) ⟨by rw [e1]; exact hP1, by rw [e1]; exact hD1, hS1⟩ hl
end
section
def dfl (a : Nat) : List Value := (List.range (ctN a)).map (fun k => defaultValue (cty a k))
theorem tr_dflt (g : Glob) (al : Nat → Nat) (ty : FieldType) : trV g al (defaultValue ty) = defaultValue ty := by cases ty <;> rfl
theorem tr_dfl (g : Glob) (al : Nat → Nat) (a : Nat) : (dfl a).map (trV g al) = dfl a := by
  unfold dfl
  rw [List.map_map]
  exact List.map_congr_left (fun k _ => tr_dflt g al _)
theorem dfl_V {a j : Nat} (hj : j < ctN a) : defaultValue (cty a j) = vp_V (dfl a) j := by
  unfold vp_V dfl
  simp [List.getD, hj]
def al1 (al : Nat → Nat) (n q : Nat) : Nat → Nat := fun k => if k = n then q else al k
theorem grow1 {g : Glob} {al : Nat → Nat} {h : AH} {q : Nat} {e : va_E} (hok : okH h = true) : trW g (al1 al h.length q) (h ++ [e]) = trW g al h ++ [(q, trE g (al1 al h.length q) e)] := by
  rw [trW_app, okW_tr (al := al) (al' := al1 al h.length q) hok (fun k hk => if_neg (Nat.ne_of_lt hk))]
  simp [al1]
theorem agr_grow {M : Mth} {al0 al al' : Nat → Nat} {n0 n n2 : Nat} (hm : m_mc M ≠ 0) (ha : agr M al0 n0 al n) (hal : ∀ k, k < n → al' k = al k) (hn : n ≤ n2) : agr M al0 n0 al' n2 :=
  ⟨fun z => absurd z hm, fun k hk => by rw [hal k (Nat.lt_of_lt_of_le hk ha.2.2), ha.2.1 k hk], Nat.le_trans ha.2.2 hn⟩
theorem okH_len {h : AH} (hok : okH h = true) : h.length ≤ 900 := by
  simp only [okH, Bool.and_eq_true] at hok
  exact Nat.le_of_ble_eq_true hok.1
theorem Bh.A {g : Glob} {s : State} (hB : Bh g s) : ∀ q, s.heap.size ≤ q → g_A g q := fun _ hq => Nat.le_trans hB.2.1 hq
/-- behind a making of one cell -/
theorem aw_made {g : Glob} {M : Mth} {Post : Option Value → AH → Prop} {cl sl pc : Nat} {ls : List (Option Value)} {st : List Value} {h : AH} {p : Program} {e : Env} {s : State} {m : MethodId} {args : Array Value} {below : List Frame} {meth : Method} {c : Code} {H : Heap} {locs : List Loc} {lsA : Array Slot} {al0 : Nat → Nat} {n0 : Nat} {al : Nat → Nat} {q : Nat} {x : va_E} {y : va_E}
    (C : Cx g M p s m args meth c) (ha : agr M al0 n0 al h.length) (hl : LH g al lsA (m_nL M) ls) (hm : m_mc M ≠ 0) (hok : okH h = true) (hst : okS h.length st = true) (hls : okL h.length ls = true) (hy : ∀ al', trE g al' x = y)
    (hP : va_P (g_D g) vwCl (trW g al h ++ [(q, y)]) H) (hD : va_D (g_A g) (trW g al h ++ [(q, y)])) (hS : va_S (g_A g) s.heap H locs)
    (K : AW g M Post cl sl pc ls (.ref h.length :: st) (h ++ [x])) :
    W p (g_l g) e (m_room M) s m args below meth c H locs cl sl (MQ below (QC g M Post al0 n0) args s (m_mc M) (m_ms M) (g_A g)) (F0 m pc lsA (.ref q :: st.map (trV g al))) := by
  have hn := okH_len hok
  have hal : ∀ k, k < h.length → al1 al h.length q k = al k := fun k hk => if_neg (Nat.ne_of_lt hk)
  have e1 := grow1 (g := g) (al := al) (q := q) (e := x) hok
  rw [hy] at e1
  have hK := K p e s m args below meth c H locs lsA al0 n0 (al1 al h.length q) C (agr_grow hm ha hal (by rw [List.length_append]; omega)) ⟨by rw [e1]; exact hP, by rw [e1]; exact hD, hS⟩ (okL_tr (by omega) hal hls hl)
  have e2 : (Value.ref h.length :: st).map (trV g (al1 al h.length q)) = .ref q :: st.map (trV g al) := by
    rw [List.map_cons, okS_tr (by omega) hal hst]
    show Value.ref (trR g (al1 al h.length q) h.length) :: _ = _
    rw [trR_lt (by omega)]
    simp [al1]
  rw [e2] at hK
  exact hK
theorem aw_new {g : Glob} {M : Mth} {Post : Option Value → AH → Prop} {cl sl pc : Nat} {ls : List (Option Value)} {st : List Value} {h : AH} {idx a : Nat} (hd : decode (m_cc M) pc = .ok (.new idx, 3)) (h7 : a < 7) (hq : Cond.classLink (m_own M) idx (ctR a) ∈ lw_g) (hq2 : Cond.instantiable (ctR a) (ctN a) ∈ lw_g) (hq3 : Cond.initialized (ctR a) ∈ lw_g) (hm : m_mc M ≠ 0) (hc : cl + 1 ≤ m_mc M) (hs : sl + ctN a ≤ m_ms M) (hok : okH h = true) (hst : okS h.length st = true) (hls : okL h.length ls = true) (K : AW g M Post (cl + 1) (sl + ctN a) (pc + 3) ls (.ref h.length :: st) (h ++ [.inr (a, dfl a)])) : AW g M Post cl sl pc ls st h := by
  intro p e s m args below meth c H locs lsA al0 n0 al C ha hw hl
  have hB := C.2.2.2.2.2.2.2.2
  refine va_new C.1 C.2.1 C.2.2.2.2.2.1 (ct_in h7) (cty a) (ct_ty h7) C.2.2.2.2.1 (C.2.2.2.2.2.1 _ hq) (C.2.2.2.2.2.1 _ hq2) (C.2.2.2.2.2.1 _ hq3) hB.K hw.1 hw.2.1 hw.2.2 hB.A (ct_cl h7) (fs := dfl a) (fun j hj => dfl_V hj) hc hs hd (fun q H1 hP1 hD1 hS1 => ?_)
  exact aw_made C ha hl hm hok hst hls (fun al' => by show Sum.inr (a, (dfl a).map (trV g al')) = _; rw [tr_dfl]) hP1 hD1 hS1 K
theorem q_newI : Cond.arrayClass .int ∈ lw_g := by decide +kernel
theorem aw_newI {g : Glob} {M : Mth} {Post : Option Value → AH → Prop} {cl sl pc : Nat} {ls : List (Option Value)} {st : List Value} {h : AH} {n : Int32} (hd : decode (m_cc M) pc = .ok (.newarray .int, 2)) (hn0 : ¬ n < 0) (hb : n.toNatClampNeg ≤ 1000) (hm : m_mc M ≠ 0) (hc : cl + 1 ≤ m_mc M) (hs : sl + n.toNatClampNeg ≤ m_ms M) (hok : okH h = true) (hst : okS h.length st = true) (hls : okL h.length ls = true) (K : AW g M Post (cl + 1) (sl + n.toNatClampNeg) (pc + 2) ls (.ref h.length :: st) (h ++ [.inl (0, n.toNatClampNeg, .inl (fun _ => 0))])) : AW g M Post cl sl pc ls (.int n :: st) h := by
  intro p e s m args below meth c H locs lsA al0 n0 al C ha hw hl
  have hB := C.2.2.2.2.2.2.2.2
  have e9 : componentBytes .int ≤ 8 := by decide
  have hby : n.toNatClampNeg * componentBytes .int ≤ 536870912 := Nat.le_trans (Nat.mul_le_mul hb e9) (by decide)
  refine va_newa (atype := .int) C.1 C.2.1 (C.2.2.2.2.2.1 _ q_newI) rfl hB.K hw.1 hw.2.1 hw.2.2 hB.A (a0 := (n.toNatClampNeg, .inl (fun _ => 0))) (fun _ => rfl) hn0 rfl hby hc hs hd (fun q cA H1 hK1 hP1 hD1 hS1 => ?_)
  have e1 : g_c g 0 = cA := Option.some.inj ((hB.K.2 0 _ rfl).2.symm.trans (hK1.2 4 _ rfl).2)
  exact aw_made C ha hl hm hok hst hls (fun al' => by show Sum.inl (g_c g 0, n.toNatClampNeg, Sum.inl (fun _ => 0)) = _; rw [e1]) hP1 hD1 hS1 K
theorem q_newZ : Cond.arrayClass .boolean ∈ lw_g := by decide +kernel
theorem aw_newZ {g : Glob} {M : Mth} {Post : Option Value → AH → Prop} {cl sl pc : Nat} {ls : List (Option Value)} {st : List Value} {h : AH} {n : Int32} (hd : decode (m_cc M) pc = .ok (.newarray .boolean, 2)) (hn0 : ¬ n < 0) (hb : n.toNatClampNeg ≤ 1000) (hm : m_mc M ≠ 0) (hc : cl + 1 ≤ m_mc M) (hs : sl + n.toNatClampNeg ≤ m_ms M) (hok : okH h = true) (hst : okS h.length st = true) (hls : okL h.length ls = true) (K : AW g M Post (cl + 1) (sl + n.toNatClampNeg) (pc + 2) ls (.ref h.length :: st) (h ++ [.inl (1, n.toNatClampNeg, .inl (fun _ => 0))])) : AW g M Post cl sl pc ls (.int n :: st) h := by
  intro p e s m args below meth c H locs lsA al0 n0 al C ha hw hl
  have hB := C.2.2.2.2.2.2.2.2
  have e9 : componentBytes .boolean ≤ 8 := by decide
  have hby : n.toNatClampNeg * componentBytes .boolean ≤ 536870912 := Nat.le_trans (Nat.mul_le_mul hb e9) (by decide)
  refine va_newa (atype := .boolean) C.1 C.2.1 (C.2.2.2.2.2.1 _ q_newZ) rfl hB.K hw.1 hw.2.1 hw.2.2 hB.A (a0 := (n.toNatClampNeg, .inl (fun _ => 0))) (fun _ => rfl) hn0 rfl hby hc hs hd (fun q cA H1 hK1 hP1 hD1 hS1 => ?_)
  have e1 : g_c g 1 = cA := Option.some.inj ((hB.K.2 1 _ rfl).2.symm.trans (hK1.2 4 _ rfl).2)
  exact aw_made C ha hl hm hok hst hls (fun al' => by show Sum.inl (g_c g 1, n.toNatClampNeg, Sum.inl (fun _ => 0)) = _; rw [e1]) hP1 hD1 hS1 K
theorem aw_newQ {g : Glob} {M : Mth} {Post : Option Value → AH → Prop} {cl sl pc : Nat} {ls : List (Option Value)} {st : List Value} {h : AH} {idx : Nat} {n : Int32} (hd : decode (m_cc M) pc = .ok (.anewarray idx, 3)) (hq : Cond.classLink (m_own M) idx "SceneShots$Scene" ∈ lw_g) (hn0 : ¬ n < 0) (hb : n.toNatClampNeg ≤ 1000) (hm : m_mc M ≠ 0) (hc : cl + 1 ≤ m_mc M) (hs : sl + n.toNatClampNeg ≤ m_ms M) (hok : okH h = true) (hst : okS h.length st = true) (hls : okL h.length ls = true) (K : AW g M Post (cl + 1) (sl + n.toNatClampNeg) (pc + 3) ls (.ref h.length :: st) (h ++ [.inl (2, n.toNatClampNeg, .inr (.inr (.inr (.inr (fun _ => none)))))])) : AW g M Post cl sl pc ls (.int n :: st) h := by
  intro p e s m args below meth c H locs lsA al0 n0 al C ha hw hl
  have hB := C.2.2.2.2.2.2.2.2
  have hov : va_AO "SceneShots$Scene" s := va_AO.moved hB.2.2.2.alike hB.1.2.2.2.2.2.2.2.1.2.2.2.1
  refine va_newq C.1 C.2.1 C.2.2.2.2.1 (C.2.2.2.2.2.1 _ hq) hov hB.K hw.1 hw.2.1 hw.2.2 hB.A hn0 rfl (by omega) hc hs hd (fun q cA H1 hK1 hP1 hD1 hS1 => ?_)
  obtain ⟨-, -, -, -, -, f1⟩ := (hB.K.2 2 _ rfl).2
  obtain ⟨-, -, -, -, -, f2⟩ := (hK1.2 4 _ rfl).2
  have e1 : g_c g 2 = cA := Option.some.inj (f1.symm.trans f2)
  exact aw_made C ha hl hm hok hst hls (fun al' => by show Sum.inl (g_c g 2, n.toNatClampNeg, Sum.inr (Sum.inr (Sum.inr (Sum.inr (fun i => if i < n.toNatClampNeg then none else none))))) = _; rw [e1]; congr; funext i; split <;> rfl) hP1 hD1 hS1 K
def al2 (al : Nat → Nat) (n q : Nat) (r : Nat → Nat) : Nat → Nat := fun k => if k < n then al k else if k = n then q else r (k - (n + 1))
theorem aw_newM {g : Glob} {M : Mth} {Post : Option Value → AH → Prop} {cl sl pc : Nat} {ls : List (Option Value)} {st : List Value} {h : AH} {idx : Nat} {n k : Int32} (hd : decode (m_cc M) pc = .ok (.multianewarray idx 2, 4)) (hq : Cond.classLink (m_own M) idx "[[I" ∈ lw_g) (hn0 : ¬ n < 0) (hk0 : ¬ k < 0) (hb : n.toNatClampNeg ≤ 50) (hb2 : k.toNatClampNeg ≤ 50) (hm : m_mc M ≠ 0) (hc : cl + (1 + n.toNatClampNeg) ≤ m_mc M) (hs : sl + (n.toNatClampNeg + n.toNatClampNeg * k.toNatClampNeg) ≤ m_ms M) (hok : okH h = true) (hst : okS h.length st = true) (hls : okL h.length ls = true)
    (K : AW g M Post (cl + 1 + n.toNatClampNeg) (sl + n.toNatClampNeg + n.toNatClampNeg * k.toNatClampNeg) (pc + 4) ls (.ref h.length :: st) (h ++ (.inl (3, n.toNatClampNeg, .inr (.inr (.inr (.inr (fun i => if i < n.toNatClampNeg then some (h.length + 1 + i) else none))))) :: List.replicate n.toNatClampNeg (.inl (0, k.toNatClampNeg, .inl (fun _ => 0)))))) : AW g M Post cl sl pc ls (.int k :: .int n :: st) h := by
  intro p e s m args below meth c H locs lsA al0 n0 al C ha hw hl
  have hB := C.2.2.2.2.2.2.2.2
  have hn := okH_len hok
  have e9 : componentBytes .int ≤ 8 := by decide
  have hby : k.toNatClampNeg * componentBytes .int ≤ 536870912 := Nat.le_trans (Nat.mul_le_mul hb2 e9) (by decide)
  have e0 : trW g al h ++ va_pl [] (fun _ => .inr (0, [])) = trW g al h := List.append_nil _
  have hov : (Cond.arrayOver (.array .int)).before args s = true := Jvm.Stand.arrayOver_alikeB hB.2.2.2.alike hB.1.2.2.2.2.2.2.2.1.2.2.2.2
  have hcy : s.vm.findClass (FieldType.array .int).toString = some (g_c g 0) := (hB.K.2 0 _ rfl).2
  refine va_mna (X := trW g al h) (L := []) (f := fun _ => .inr (0, [])) (ty := .int) (z := (k.toNatClampNeg, .inl (fun _ => 0))) C.1 C.2.1 C.2.2.2.2.1 (C.2.2.2.2.2.1 _ hq) hov (C.2.2.2.2.2.1 _ q_newI) hcy hB.K (by rw [e0]; exact hw.1) (by rw [e0]; exact hw.2.1) hw.2.2 hB.A hn0 hk0 rfl rfl (by omega) hby (by omega) rfl rfl hc hs (fun c9 => by
    show ({ cls := c9, slots := Array.replicate k.toNatClampNeg (.int 0), vm := .none } : Cell) = arrV c9 k.toNatClampNeg (fun _ => .int 0)
    exact arrV_new _ _ _) hd (fun q r cA H1 hinj _ hK1 hP1 hD1 hS1 => ?_)
  have e1 : g_c g 3 = cA := Option.some.inj ((hB.K.2 3 _ rfl).2.symm.trans (hK1.2 4 _ rfl).2)
  have hal : ∀ j, j < h.length → al2 al h.length q r j = al j := fun j hj => if_pos hj
  have eW : trW g (al2 al h.length q r) (h ++ (.inl (3, n.toNatClampNeg, .inr (.inr (.inr (.inr (fun i => if i < n.toNatClampNeg then some (h.length + 1 + i) else none))))) :: List.replicate n.toNatClampNeg (.inl (0, k.toNatClampNeg, .inl (fun _ => 0))))) = (trW g al h ++ [(q, .inl (cA, n.toNatClampNeg, .inr (.inr (.inr (.inr (fun i => if i < n.toNatClampNeg then some (r i) else none))))))]) ++ va_pl ([] ++ (List.range n.toNatClampNeg).map r) (vr_up (fun _ => .inr (0, [])) ((List.range n.toNatClampNeg).map r) (.inl (g_c g 0, (k.toNatClampNeg, .inl (fun _ => 0))))) := by
    rw [trW_app, okW_tr (al := al) hok hal, List.append_assoc]
    congr 1
    rw [List.mapIdx_cons, List.singleton_append]
    congr 1
    · show (al2 al h.length q r (0 + h.length), trE g (al2 al h.length q r) _) = _
      have e2 : al2 al h.length q r (0 + h.length) = q := by simp [al2]
      rw [e2]
      congr 1
      show Sum.inl (g_c g 3, n.toNatClampNeg, Sum.inr (Sum.inr (Sum.inr (Sum.inr (fun i => if i < n.toNatClampNeg then (if i < n.toNatClampNeg then some (h.length + 1 + i) else none).map (trR g (al2 al h.length q r)) else none))))) = _
      rw [e1]
      refine congrArg (fun z => (Sum.inl (cA, n.toNatClampNeg, Sum.inr (Sum.inr (Sum.inr (Sum.inr z)))) : va_E)) (funext fun i => ?_)
      by_cases hi : i < n.toNatClampNeg
      · rw [if_pos hi, if_pos hi, if_pos hi]
        show some (trR g (al2 al h.length q r) (h.length + 1 + i)) = some (r i)
        rw [trR_lt (by omega)]
        have e3 : al2 al h.length q r (h.length + 1 + i) = r i := by
          unfold al2
          rw [if_neg (by omega), if_neg (by omega)]
          congr 1
          omega
        rw [e3]
      · rw [if_neg hi, if_neg hi]
    · apply List.ext_getElem?
      intro j
      unfold va_pl
      rw [List.getElem?_mapIdx, List.nil_append, List.getElem?_map, List.getElem?_map, List.getElem?_replicate]
      by_cases hj : j < n.toNatClampNeg
      · rw [if_pos hj, List.getElem?_range hj]
        show some (al2 al h.length q r (j + 1 + h.length), Sum.inl (g_c g 0, k.toNatClampNeg, Sum.inl (fun _ => 0))) = some (r j, vr_up _ _ _ (r j))
        rw [vr_up_in (List.mem_map.mpr ⟨j, List.mem_range.mpr hj, rfl⟩)]
        have e3 : al2 al h.length q r (j + 1 + h.length) = r j := by
          unfold al2
          rw [if_neg (by omega), if_neg (by omega)]
          congr 1
          omega
        rw [e3]
      · rw [if_neg hj, List.getElem?_eq_none (by rw [List.length_range]; omega)]
        rfl
  have hK := K p e s m args below meth c H1 locs lsA al0 n0 (al2 al h.length q r) C (agr_grow hm ha hal (by rw [List.length_append]; omega)) ⟨by rw [eW]; exact hP1, by rw [eW]; exact hD1, hS1⟩ (okL_tr (by omega) hal hls hl)
  have e2 : (Value.ref h.length :: st).map (trV g (al2 al h.length q r)) = .ref q :: st.map (trV g al) := by
    rw [List.map_cons, okS_tr (by omega) hal hst]
    show Value.ref (trR g (al2 al h.length q r) h.length) :: _ = _
    rw [trR_lt (by omega)]
    simp [al2]
  rw [e2] at hK
  exact hK
/-! a method's entry -/
theorem lg_sl1 {vs : List Value} (h : vs.all (fun v => v.category == 1) = true) : lg_sl vs = vs.map Slot.val := by
  induction vs with
  | nil => rfl
  | cons v vs ih =>
    simp only [List.all_cons, Bool.and_eq_true, beq_iff_eq] at h
    show (if v.category = 2 then [Slot.val v, Slot.second] else [Slot.val v]) ++ lg_sl vs = _
    rw [if_neg (by omega), ih h.2]
    rfl
def ls0 (n : Nat) (args : List Value) : List (Option Value) := args.map some ++ List.replicate (n - args.length) none
theorem ac_in {g : Glob} {M : Mth} {args : List Value} {h : AH} {Post : Option Value → AH → Prop} (hy : plainName (m_y M).cls = true) (ho : (m_y M).cls = m_own M) (hc : args.all (fun v => v.category == 1) = true) (hn : args.length ≤ m_nL M) (K : AW g M Post 0 0 0 (ls0 (m_nL M) args) [] h) : AC g M args h Post := by
  intro al
  refine Met.ofW (cc := m_cc M) (maxL := m_nL M) (ret := m_ret M) hy rfl ?_
  intro p e s m args' below meth c s1 B hml hv
  obtain ⟨rfl, hB, hP, hD⟩ := hv
  have hts := atoms_spec (ws := m_ws M) B.pre
  have C : Cx g M p s m (args.map (trV g al)).toArray meth c := ⟨B.exec, B.bytes, B.returns, hml, by rw [← ho]; exact findClass_of_methodNamed B.named, fun w hw => hts w (List.mem_cons_of_mem _ hw), B.notSynchronized, (name_of_methodNamed B.named B.method).1, hB⟩
  have hc2 : (args.map (trV g al)).all (fun v => v.category == 1) = true := by
    rw [List.all_map]
    rw [show ((fun v : Value => v.category == 1) ∘ trV g al) = (fun v => v.category == 1) from funext (fun v => by show ((trV g al v).category == 1) = _; rw [trV_cat])]
    exact hc
  have hl0 := lv_entry (args.map (trV g al)) (n := m_nL M) (by rw [lg_sl1 hc2, List.length_map, List.length_map]; exact hn)
  rw [lg_entry_eq]
  refine K p e s m _ below meth c s.heap [] _ al h.length al C ⟨fun _ => rfl, fun _ _ => rfl, Nat.le_refl _⟩ ⟨hP, hD, va_S.rf⟩ ⟨hl0.1, hl0.2.1, fun k v hk => ?_⟩
  rw [lg_sl1 hc2]
  unfold ls0 at hk
  simp only [List.getElem?_toArray]
  have hk1 : k < args.length := by
    rcases Nat.lt_or_ge k args.length with z | z
    · exact z
    · rw [List.getElem?_append_right (by rw [List.length_map]; exact z)] at hk
      have := List.mem_of_getElem? hk
      rw [List.mem_replicate] at this
      cases this.2
  rw [List.getElem?_append_left (by rw [List.length_map]; exact hk1), List.getElem?_map] at hk
  rw [List.getElem?_append_left (by rw [List.length_map, List.length_map]; exact hk1), List.getElem?_map, List.getElem?_map]
  cases hv : args[k]? with
  | none => rw [hv] at hk; cases hk
  | some w =>
    rw [hv] at hk
    cases hk
    rfl
theorem ac_mono {g : Glob} {M : Mth} {args : List Value} {h : AH} {P Q : Option Value → AH → Prop} (hP : AC g M args h P) (hPQ : ∀ r h', P r h' → Q r h') : AC g M args h Q := by
  intro al
  have h0 := hP al
  intro p e ha hc hk s m a below hf happ hpc hK
  obtain ⟨k, o, h1, h2, h3, ⟨rv, h', al', z1, z2, z3⟩, h5⟩ := h0 p e ha hc hk s m a below hf happ hpc hK
  exact ⟨k, o, h1, h2, h3, ⟨rv, h', al', z1, hPQ _ _ z2, z3⟩, h5⟩
/-- a contract that says one answer and one heap -/
def ACe (g : Glob) (M : Mth) (args : List Value) (h : AH) (rv : Option Value) (h2 : AH) : Prop := AC g M args h (fun r h' => r = rv ∧ h' = h2)
theorem ac_to {g : Glob} {M : Mth} {args : List Value} {h h2 : AH} {rv : Option Value} {Q : Option Value → AH → Prop} (hP : ACe g M args h rv h2) (hQ : Q rv h2) : AC g M args h Q := ac_mono hP (fun r h' z => by rw [z.1, z.2]; exact hQ)
end
section
/-! ===== wp: the machine run over a table of instructions, as a proposition; it stops at the heads of loops ===== -/
def s1i (st : List Value) (F : Int32 → List Value → Prop) : Prop := match st with
  | .int x :: r => F x r
  | _ => False
def s2i (st : List Value) (F : Int32 → Int32 → List Value → Prop) : Prop := match st with
  | .int y :: .int x :: r => F x y r
  | _ => False
def s1f (st : List Value) (F : UInt32 → List Value → Prop) : Prop := match st with
  | .float x :: r => F x r
  | _ => False
def s2f (st : List Value) (F : UInt32 → UInt32 → List Value → Prop) : Prop := match st with
  | .float y :: .float x :: r => F x y r
  | _ => False
def s1l (st : List Value) (F : Int64 → List Value → Prop) : Prop := match st with
  | .long x :: r => F x r
  | _ => False
def s2l (st : List Value) (F : Int64 → Int64 → List Value → Prop) : Prop := match st with
  | .long y :: .long x :: r => F x y r
  | _ => False
def s1r (st : List Value) (F : Nat → List Value → Prop) : Prop := match st with
  | .ref x :: r => F x r
  | _ => False
def s1v (st : List Value) (F : Value → List Value → Prop) : Prop := match st with
  | x :: r => (match Nat.beq x.category 1 with
    | true => F x r
    | false => False)
  | _ => False
def s2v (st : List Value) (F : Value → Value → List Value → Prop) : Prop := match st with
  | x :: y :: r => (match Nat.beq x.category 1 && Nat.beq y.category 1 with
    | true => F x y r
    | false => False)
  | _ => False
def sir (st : List Value) (F : Int32 → Nat → List Value → Prop) : Prop := match st with
  | .int i :: .ref k :: r => F i k r
  | _ => False
def siir (st : List Value) (F : Int32 → Int32 → Nat → List Value → Prop) : Prop := match st with
  | .int x :: .int i :: .ref k :: r => F x i k r
  | _ => False
def srir (st : List Value) (F : Nat → Int32 → Nat → List Value → Prop) : Prop := match st with
  | .ref q :: .int i :: .ref k :: r => F q i k r
  | _ => False
def svr (st : List Value) (F : Value → Nat → List Value → Prop) : Prop := match st with
  | v :: .ref k :: r => F v k r
  | _ => False
def scp (st : List Value) (F : Int32 → Int32 → Nat → Int32 → Nat → List Value → Prop) : Prop := match st with
  | .int n :: .int dp :: .ref k1 :: .int sp :: .ref k0 :: r => F n dp k1 sp k0 r
  | _ => False
def lI (o : Option Value) (F : Int32 → Prop) : Prop := match o with
  | some (.int x) => F x
  | _ => False
def lF (o : Option Value) (F : UInt32 → Prop) : Prop := match o with
  | some (.float x) => F x
  | _ => False
def lL (o : Option Value) (F : Int64 → Prop) : Prop := match o with
  | some (.long x) => F x
  | _ => False
def lR (o : Option Value) (F : Nat → Prop) : Prop := match o with
  | some (.ref x) => F x
  | _ => False
def r1i (st : List Value) (F : Int32 → Prop) : Prop := match st with
  | [.int x] => F x
  | _ => False
def r1l (st : List Value) (F : Int64 → Prop) : Prop := match st with
  | [.long x] => F x
  | _ => False
def r1f (st : List Value) (F : UInt32 → Prop) : Prop := match st with
  | [.float x] => F x
  | _ => False
def r0 (st : List Value) (P : Prop) : Prop := match st with
  | [] => P
  | _ => False
def popR (n : Nat) (st : List Value) (F : List Value → Nat → List Value → Prop) : Prop := match popN n [] st with
  | some (As, .ref k :: r) => F As k r
  | _ => False
def popT (n : Nat) (st : List Value) (F : List Value → List Value → Prop) : Prop := match popN n [] st with
  | some (As, r) => F As r
  | _ => False
def bEl (b : Bool) (P Q : Prop) : Prop := match b with
  | true => P
  | false => Q
def bIf (b : Bool) (P : Prop) : Prop := match b with
  | true => P
  | false => False
def oV (o : Option Value) (F : Value → Prop) : Prop := match o with
  | some v => F v
  | none => False
/-- an object of class a at k -/
def oO (h : AH) (k a : Nat) (F : List Value → Prop) : Prop := match hat h k with
  | some (.inr (ci, fs)) => (match Nat.beq ci a with
    | true => F fs
    | false => False)
  | _ => False
/-- what a field takes -/
def pok (ty : FieldType) (v : Value) (P : Prop) : Prop := match ty, v with
  | .int, .int _ => P
  | .boolean, .int x => (x = 0 ∨ x = 1) ∧ P
  | .array _, .ref _ => P
  | .object _, .ref _ => P
  | _, _ => False
def swp (F : Nat → Prop) (pc : Nat) (x : Int) : Int → List Int → Prop
  | _, [] => True
  | lo, o :: os => (x = lo → F ((pc : Int) + o).toNat) ∧ swp F pc x (lo + 1) os
theorem s1i_of {st : List Value} {F : Int32 → List Value → Prop} (h : s1i st F) : ∃ x r, st = .int x :: r ∧ F x r := by
  unfold s1i at h; split at h
  · exact ⟨_, _, rfl, h⟩
  · exact h.elim
theorem s2i_of {st : List Value} {F : Int32 → Int32 → List Value → Prop} (h : s2i st F) : ∃ x y r, st = .int y :: .int x :: r ∧ F x y r := by
  unfold s2i at h; split at h
  · exact ⟨_, _, _, rfl, h⟩
  · exact h.elim
theorem s1f_of {st : List Value} {F : UInt32 → List Value → Prop} (h : s1f st F) : ∃ x r, st = .float x :: r ∧ F x r := by
  unfold s1f at h; split at h
  · exact ⟨_, _, rfl, h⟩
  · exact h.elim
theorem s2f_of {st : List Value} {F : UInt32 → UInt32 → List Value → Prop} (h : s2f st F) : ∃ x y r, st = .float y :: .float x :: r ∧ F x y r := by
  unfold s2f at h; split at h
  · exact ⟨_, _, _, rfl, h⟩
  · exact h.elim
theorem s1l_of {st : List Value} {F : Int64 → List Value → Prop} (h : s1l st F) : ∃ x r, st = .long x :: r ∧ F x r := by
  unfold s1l at h; split at h
  · exact ⟨_, _, rfl, h⟩
  · exact h.elim
theorem s2l_of {st : List Value} {F : Int64 → Int64 → List Value → Prop} (h : s2l st F) : ∃ x y r, st = .long y :: .long x :: r ∧ F x y r := by
  unfold s2l at h; split at h
  · exact ⟨_, _, _, rfl, h⟩
  · exact h.elim
theorem s1r_of {st : List Value} {F : Nat → List Value → Prop} (h : s1r st F) : ∃ x r, st = .ref x :: r ∧ F x r := by
  unfold s1r at h; split at h
  · exact ⟨_, _, rfl, h⟩
  · exact h.elim
theorem s1v_of {st : List Value} {F : Value → List Value → Prop} (h : s1v st F) : ∃ x r, st = x :: r ∧ x.category = 1 ∧ F x r := by
  unfold s1v at h; split at h
  · split at h
    · rename_i x r _ hc
      exact ⟨x, r, rfl, Nat.eq_of_beq_eq_true hc, h⟩
    · exact h.elim
  · exact h.elim
theorem s2v_of {st : List Value} {F : Value → Value → List Value → Prop} (h : s2v st F) : ∃ x y r, st = x :: y :: r ∧ x.category = 1 ∧ y.category = 1 ∧ F x y r := by
  unfold s2v at h; split at h
  · split at h
    · rename_i x y r _ hc
      rw [Bool.and_eq_true] at hc
      exact ⟨x, y, r, rfl, Nat.eq_of_beq_eq_true hc.1, Nat.eq_of_beq_eq_true hc.2, h⟩
    · exact h.elim
  · exact h.elim
theorem sir_of {st : List Value} {F : Int32 → Nat → List Value → Prop} (h : sir st F) : ∃ i k r, st = .int i :: .ref k :: r ∧ F i k r := by
  unfold sir at h; split at h
  · exact ⟨_, _, _, rfl, h⟩
  · exact h.elim
theorem siir_of {st : List Value} {F : Int32 → Int32 → Nat → List Value → Prop} (h : siir st F) : ∃ x i k r, st = .int x :: .int i :: .ref k :: r ∧ F x i k r := by
  unfold siir at h; split at h
  · exact ⟨_, _, _, _, rfl, h⟩
  · exact h.elim
theorem srir_of {st : List Value} {F : Nat → Int32 → Nat → List Value → Prop} (h : srir st F) : ∃ q i k r, st = .ref q :: .int i :: .ref k :: r ∧ F q i k r := by
  unfold srir at h; split at h
  · exact ⟨_, _, _, _, rfl, h⟩
  · exact h.elim
theorem svr_of {st : List Value} {F : Value → Nat → List Value → Prop} (h : svr st F) : ∃ v k r, st = v :: .ref k :: r ∧ F v k r := by
  unfold svr at h; split at h
  · exact ⟨_, _, _, rfl, h⟩
  · exact h.elim
theorem scp_of {st : List Value} {F : Int32 → Int32 → Nat → Int32 → Nat → List Value → Prop} (h : scp st F) : ∃ n dp k1 sp k0 r, st = .int n :: .int dp :: .ref k1 :: .int sp :: .ref k0 :: r ∧ F n dp k1 sp k0 r := by
  unfold scp at h; split at h
  · exact ⟨_, _, _, _, _, _, rfl, h⟩
  · exact h.elim
theorem lI_of {o : Option Value} {F : Int32 → Prop} (h : lI o F) : ∃ x, o = some (.int x) ∧ F x := by
  unfold lI at h; split at h
  · exact ⟨_, rfl, h⟩
  · exact h.elim
theorem lF_of {o : Option Value} {F : UInt32 → Prop} (h : lF o F) : ∃ x, o = some (.float x) ∧ F x := by
  unfold lF at h; split at h
  · exact ⟨_, rfl, h⟩
  · exact h.elim
theorem lL_of {o : Option Value} {F : Int64 → Prop} (h : lL o F) : ∃ x, o = some (.long x) ∧ F x := by
  unfold lL at h; split at h
  · exact ⟨_, rfl, h⟩
  · exact h.elim
theorem lR_of {o : Option Value} {F : Nat → Prop} (h : lR o F) : ∃ x, o = some (.ref x) ∧ F x := by
  unfold lR at h; split at h
  · exact ⟨_, rfl, h⟩
  · exact h.elim
theorem r1i_of {st : List Value} {F : Int32 → Prop} (h : r1i st F) : ∃ x, st = [.int x] ∧ F x := by
  unfold r1i at h; split at h
  · exact ⟨_, rfl, h⟩
  · exact h.elim
theorem r1l_of {st : List Value} {F : Int64 → Prop} (h : r1l st F) : ∃ x, st = [.long x] ∧ F x := by
  unfold r1l at h; split at h
  · exact ⟨_, rfl, h⟩
  · exact h.elim
theorem r1f_of {st : List Value} {F : UInt32 → Prop} (h : r1f st F) : ∃ x, st = [.float x] ∧ F x := by
  unfold r1f at h; split at h
  · exact ⟨_, rfl, h⟩
  · exact h.elim
theorem r0_of {st : List Value} {P : Prop} (h : r0 st P) : st = [] ∧ P := by
  unfold r0 at h; split at h
  · exact ⟨rfl, h⟩
  · exact h.elim
theorem popR_of {n : Nat} {st : List Value} {F : List Value → Nat → List Value → Prop} (h : popR n st F) : ∃ As k r, popN n [] st = some (As, .ref k :: r) ∧ F As k r := by
  unfold popR at h; split at h
  · rename_i he
    exact ⟨_, _, _, he, h⟩
  · exact h.elim
theorem popT_of {n : Nat} {st : List Value} {F : List Value → List Value → Prop} (h : popT n st F) : ∃ As r, popN n [] st = some (As, r) ∧ F As r := by
  unfold popT at h; split at h
  · rename_i he
    exact ⟨_, _, he, h⟩
  · exact h.elim
theorem bEl_of {b : Bool} {P Q : Prop} (h : bEl b P Q) : (b = true ∧ P) ∨ (b = false ∧ Q) := by
  cases b with
  | true => exact Or.inl ⟨rfl, h⟩
  | false => exact Or.inr ⟨rfl, h⟩
theorem bIf_of {b : Bool} {P : Prop} (h : bIf b P) : b = true ∧ P := by
  cases b with
  | true => exact ⟨rfl, h⟩
  | false => exact h.elim
theorem oV_of {o : Option Value} {F : Value → Prop} (h : oV o F) : ∃ v, o = some v ∧ F v := by
  cases o with
  | none => exact h.elim
  | some v => exact ⟨v, rfl, h⟩
theorem oO_of {h : AH} {k a : Nat} {F : List Value → Prop} (hh : oO h k a F) : ∃ fs, hat h k = some (.inr (a, fs)) ∧ F fs := by
  unfold oO at hh; split at hh
  · split at hh
    · rename_i ci fs he _ hc
      rw [Nat.eq_of_beq_eq_true hc] at he
      exact ⟨fs, he, hh⟩
    · exact hh.elim
  · exact hh.elim
theorem pok_of {ty : FieldType} {v : Value} {P : Prop} (h : pok ty v P) (g : Glob) : (∀ al, narrow ty (trV g al v) = trV g al v) ∧ (∀ al, fits ty (trV g al v) = true) ∧ P := by
  unfold pok at h; split at h
  · exact ⟨fun _ => rfl, fun _ => rfl, h⟩
  · obtain ⟨h1 | h1, h2⟩ := h
    · subst h1; exact ⟨fun _ => rfl, fun _ => rfl, h2⟩
    · subst h1; exact ⟨fun _ => rfl, fun _ => rfl, h2⟩
  · exact ⟨fun _ => rfl, fun _ => rfl, h⟩
  · exact ⟨fun _ => rfl, fun _ => rfl, h⟩
  · exact h.elim
theorem swp_get {F : Nat → Prop} {pc : Nat} {x : Int} : ∀ (l : List Int) (lo : Int), swp F pc x lo l → lo ≤ x → x < lo + l.length → ∃ off, l[(x - lo).toNat]? = some off ∧ F ((pc : Int) + off).toNat := by
  intro l
  induction l with
  | nil => intro lo _ h1 h2; simp at h2; omega
  | cons o os ih =>
    intro lo h h1 h2
    by_cases hx : x = lo
    · subst hx
      refine ⟨o, ?_, h.1 rfl⟩
      rw [show (x - x).toNat = 0 by omega]
      rfl
    · obtain ⟨off, z1, z2⟩ := ih (lo + 1) h.2 (by omega) (by rw [List.length_cons] at h2; omega)
      refine ⟨off, ?_, z2⟩
      rw [show (x - lo).toNat = (x - (lo + 1)).toNat + 1 by omega]
      exact z1
abbrev FT : Type := List En → List (Option Value) → List Value → AH → Nat → Nat → Prop
def nx (g : Glob) (M : Mth) (Post : Option Value → AH → Prop) (F : FT) (r : List En) (ls : List (Option Value)) (st : List Value) (h : AH) (cl sl : Nat) : Prop := match r with
  | [] => False
  | e2 :: _ => match (m_stops M).elem e2.1 with
    | true => AW g M Post cl sl e2.1 ls st h
    | false => F r ls st h cl sl
def jp (g : Glob) (M : Mth) (Post : Option Value → AH → Prop) (F : FT) (t : Nat) (ls : List (Option Value)) (st : List Value) (h : AH) (cl sl : Nat) : Prop := match (m_stops M).elem t with
  | true => AW g M Post cl sl t ls st h
  | false => F (dropTo t (m_code M)) ls st h cl sl
def ico (c : Jvm.ClassFile.Cond) (x y : Int32) (P Q : Prop) : Prop := match c with
  | .eq => (x = y → P) ∧ (¬ x = y → Q)
  | .ne => (¬ x = y → P) ∧ (x = y → Q)
  | .lt => (x < y → P) ∧ (¬ x < y → Q)
  | .ge => (y ≤ x → P) ∧ (¬ y ≤ x → Q)
  | .gt => (y < x → P) ∧ (¬ y < x → Q)
  | .le => (x ≤ y → P) ∧ (¬ x ≤ y → Q)
def ret9 (M : Mth) (cl sl : Nat) (P : Prop) : Prop := bIf (Nat.ble cl (m_mc M) && Nat.ble sl (m_ms M)) P
def zok (ty : Option FieldType) (v : Int32) (P : Prop) : Prop := match ty with
  | some .int => P
  | some t => narrow t (.int v) = .int v ∧ P
  | none => False
/-- room and places for a call -/
def cok (M M' : Mth) (cl sl : Nat) (ls : List (Option Value)) (st : List Value) (h : AH) (P : Prop) : Prop :=
  bIf (Nat.ble (cl + m_mc M') (m_mc M) && Nat.ble (sl + m_ms M') (m_ms M) && Nat.ble ((st.map fun v => v.category).sum) 8) (match Nat.beq (m_mc M') 0 with
    | true => P
    | false => (h.length ≤ 1000 ∧ okS h.length st = true ∧ okL h.length ls = true) ∧ P)
def mok (M : Mth) (cl sl : Nat) (ls : List (Option Value)) (st : List Value) (h : AH) (dc ds : Nat) (P : Prop) : Prop :=
  bIf (!Nat.beq (m_mc M) 0 && Nat.ble (cl + dc) (m_mc M) && Nat.ble (sl + ds) (m_ms M)) ((okH h = true ∧ okS h.length st = true ∧ okL h.length ls = true) ∧ P)
def rcv (M' : Mth) (h : AH) (b : Nat) (P : Prop) : Prop := match Nat.blt b 1000 with
  | true => (match h[b]? with
    | some (.inr (a, _)) => bIf (Nat.blt a 7 && decide (ctR a = (m_y M').cls)) P
    | _ => False)
  | false => bIf ((Nat.beq b 1000 || Nat.beq b 1001 || Nat.beq b 1002) && decide ((m_y M').cls = "java/lang/String")) P
def wpS (g : Glob) (mt : Nat → Mth) (M : Mth) (Post : Option Value → AH → Prop) (F : FT) : FT := fun cd ls st h cl sl => match cd with
  | [] => False
  | (pc, _, i, a, b, _, v) :: r => match i with
      | .iconst _ => nx g M Post F r ls (.int v :: st) h cl sl
      | .bipush _ => nx g M Post F r ls (.int v :: st) h cl sl
      | .sipush _ => nx g M Post F r ls (.int v :: st) h cl sl
      | .ldc _ => match b with
        | 0 => nx g M Post F r ls (.int v :: st) h cl sl
        | 1 => nx g M Post F r ls (.float (UInt32.ofNat a) :: st) h cl sl
        | _ => nx g M Post F r ls (.ref a :: st) h cl sl
      | .ldc_w _ => nx g M Post F r ls (.int v :: st) h cl sl
      | .ldc2_w _ => nx g M Post F r ls (.long (Int64.ofNat a) :: st) h cl sl
      | .lconst _ => nx g M Post F r ls (.long (Int64.ofNat a) :: st) h cl sl
      | .fconst _ => nx g M Post F r ls (.float FP.fconst0 :: st) h cl sl
      | .iload_n j => lI (lget ls j) (fun x => nx g M Post F r ls (.int x :: st) h cl sl)
      | .iload j => lI (lget ls j) (fun x => nx g M Post F r ls (.int x :: st) h cl sl)
      | .fload_n j => lF (lget ls j) (fun x => nx g M Post F r ls (.float x :: st) h cl sl)
      | .fload j => lF (lget ls j) (fun x => nx g M Post F r ls (.float x :: st) h cl sl)
      | .lload_n j => lL (lget ls j) (fun x => nx g M Post F r ls (.long x :: st) h cl sl)
      | .lload j => lL (lget ls j) (fun x => nx g M Post F r ls (.long x :: st) h cl sl)
      | .aload_n j => lR (lget ls j) (fun x => nx g M Post F r ls (.ref x :: st) h cl sl)
      | .aload j => lR (lget ls j) (fun x => nx g M Post F r ls (.ref x :: st) h cl sl)
      | .istore_n j => s1i st (fun x st => bIf (Nat.blt j (m_nL M) && !c2at ls j) (nx g M Post F r (ls.set j (some (.int x))) (st) h cl sl))
      | .istore j => s1i st (fun x st => bIf (Nat.blt j (m_nL M) && !c2at ls j) (nx g M Post F r (ls.set j (some (.int x))) (st) h cl sl))
      | .fstore_n j => s1f st (fun x st => bIf (Nat.blt j (m_nL M) && !c2at ls j) (nx g M Post F r (ls.set j (some (.float x))) (st) h cl sl))
      | .fstore j => s1f st (fun x st => bIf (Nat.blt j (m_nL M) && !c2at ls j) (nx g M Post F r (ls.set j (some (.float x))) (st) h cl sl))
      | .astore_n j => s1r st (fun x st => bIf (Nat.blt j (m_nL M) && !c2at ls j) (nx g M Post F r (ls.set j (some (.ref x))) (st) h cl sl))
      | .astore j => s1r st (fun x st => bIf (Nat.blt j (m_nL M) && !c2at ls j) (nx g M Post F r (ls.set j (some (.ref x))) (st) h cl sl))
      | .lstore_n j => s1l st (fun x st => bIf (Nat.blt (j + 1) (m_nL M) && !c2at ls j) (nx g M Post F r ((ls.set j (some (.long x))).set (j + 1) none) (st) h cl sl))
      | .lstore j => s1l st (fun x st => bIf (Nat.blt (j + 1) (m_nL M) && !c2at ls j) (nx g M Post F r ((ls.set j (some (.long x))).set (j + 1) none) (st) h cl sl))
      | .iinc j _ => lI (lget ls j) (fun x => bIf (Nat.blt j (m_nL M) && !c2at ls j) (nx g M Post F r (ls.set j (some (.int (x + v)))) (st) h cl sl))
      | .iadd => s2i st (fun x y st => nx g M Post F r ls (.int (x + y) :: st) h cl sl)
      | .isub => s2i st (fun x y st => nx g M Post F r ls (.int (x - y) :: st) h cl sl)
      | .imul => s2i st (fun x y st => nx g M Post F r ls (.int (x * y) :: st) h cl sl)
      | .iand => s2i st (fun x y st => nx g M Post F r ls (.int (x &&& y) :: st) h cl sl)
      | .ior => s2i st (fun x y st => nx g M Post F r ls (.int (x ||| y) :: st) h cl sl)
      | .ixor => s2i st (fun x y st => nx g M Post F r ls (.int (x ^^^ y) :: st) h cl sl)
      | .ishl => s2i st (fun x y st => nx g M Post F r ls (.int (x <<< (y &&& 31)) :: st) h cl sl)
      | .ishr => s2i st (fun x y st => nx g M Post F r ls (.int (x >>> (y &&& 31)) :: st) h cl sl)
      | .iushr => s2i st (fun x y st => nx g M Post F r ls (.int ((x.toUInt32 >>> (y.toUInt32 &&& Int32.toUInt32 31)).toInt32) :: st) h cl sl)
      | .ineg => s1i st (fun x st => nx g M Post F r ls (.int (-x) :: st) h cl sl)
      | .i2l => s1i st (fun x st => nx g M Post F r ls (.long x.toInt64 :: st) h cl sl)
      | .i2c => s1i st (fun x st => nx g M Post F r ls (.int (x.toUInt32 % 65536).toInt32 :: st) h cl sl)
      | .i2f => s1i st (fun x st => nx g M Post F r ls (.float (FP.i2f x) :: st) h cl sl)
      | .f2i => s1f st (fun x st => nx g M Post F r ls (.int (FP.f2i x) :: st) h cl sl)
      | .ladd => s2l st (fun x y st => nx g M Post F r ls (.long (x + y) :: st) h cl sl)
      | .lsub => s2l st (fun x y st => nx g M Post F r ls (.long (x - y) :: st) h cl sl)
      | .lmul => s2l st (fun x y st => nx g M Post F r ls (.long (x * y) :: st) h cl sl)
      | .lcmp => s2l st (fun x y st => nx g M Post F r ls (.int (lg_cmp x y) :: st) h cl sl)
      | .fadd => s2f st (fun x y st => vf_n32 (FP.fadd x y) ∧ nx g M Post F r ls (.float (FP.fadd x y) :: st) h cl sl)
      | .fmul => s2f st (fun x y st => vf_n32 (FP.fmul x y) ∧ nx g M Post F r ls (.float (FP.fmul x y) :: st) h cl sl)
      | .fdiv => s2f st (fun x y st => vf_n32 (FP.fdiv x y) ∧ nx g M Post F r ls (.float (FP.fdiv x y) :: st) h cl sl)
      | .fcmp op => s2f st (fun x y st => nx g M Post F r ls (.int (Op.cmpValue (FP.fcmp x y) op) :: st) h cl sl)
      | .dup => s1v st (fun x st => nx g M Post F r ls (x :: x :: st) h cl sl)
      | .pop => s1v st (fun _ st => nx g M Post F r ls (st) h cl sl)
      | .dup2 => s2v st (fun x y st => nx g M Post F r ls (x :: y :: x :: y :: st) h cl sl)
      | .if_icmp cnd _ => s2i st (fun x y st => ico cnd x y (jp g M Post F a ls (st) h cl sl) (nx g M Post F r ls (st) h cl sl))
      | .ifCond cnd _ => s1i st (fun x st => ico cnd x 0 (jp g M Post F a ls (st) h cl sl) (nx g M Post F r ls (st) h cl sl))
      | .goto _ => jp g M Post F a ls (st) h cl sl
      | .tableswitch _ lo hi offs => s1i st (fun x st => (x.toInt < lo ∨ hi < x.toInt → jp g M Post F a ls (st) h cl sl) ∧ swp (fun t => jp g M Post F t ls (st) h cl sl) pc x.toInt lo offs.toList)
      | .getfield _ => s1r st (fun k st => bEl (Nat.blt a 7) (oO h k a (fun fs => oV (fs[b]?) (fun w => nx g M Post F r ls (w :: st) h cl sl))) (oV (roF k b) (fun w => nx g M Post F r ls (w :: st) h cl sl)))
      | .putfield _ => svr st (fun w k st => oO h k a (fun fs => bIf (Nat.blt b fs.length) (pok (cty a b) w (nx g M Post F r ls (st) (h.set k (.inr (a, fs.set b w))) cl sl))))
      | .iaload => sir st (fun i k st => bEl (Nat.blt k 1000) (∃ n f, hat h k = some (.inl (0, n, .inl f)) ∧ vp_in i n ∧ nx g M Post F r ls (.int (f i.toNatClampNeg) :: st) h cl sl) (∃ n f, roI g k = some (n, f) ∧ vp_in i n ∧ nx g M Post F r ls (.int (f i.toNatClampNeg) :: st) h cl sl))
      | .baload => sir st (fun i k st => bEl (Nat.blt k 1000) (∃ n f, hat h k = some (.inl (1, n, .inl f)) ∧ vp_in i n ∧ nx g M Post F r ls (.int (f i.toNatClampNeg) :: st) h cl sl) (∃ n f, roB k = some (n, f) ∧ vp_in i n ∧ nx g M Post F r ls (.int (f i.toNatClampNeg) :: st) h cl sl))
      | .iastore => siir st (fun x i k st => ∃ n f, hat h k = some (.inl (0, n, .inl f)) ∧ vp_in i n ∧ nx g M Post F r ls (st) (h.set k (.inl (0, n, .inl (upd f i.toNatClampNeg x)))) cl sl)
      | .bastore => siir st (fun x i k st => ∃ n f, hat h k = some (.inl (1, n, .inl f)) ∧ vp_in i n ∧ nx g M Post F r ls (st) (h.set k (.inl (1, n, .inl (upd f i.toNatClampNeg (vp_nar .boolean x))))) cl sl)
      | .aaload => sir st (fun i k st => ∃ t n f q, (t = 2 ∨ t = 3) ∧ hat h k = some (.inl (t, n, .inr (.inr (.inr (.inr f))))) ∧ vp_in i n ∧ f i.toNatClampNeg = some q ∧ nx g M Post F r ls (.ref q :: st) h cl sl)
      | .aastore => srir st (fun q i k st => ∃ n f fs, hat h k = some (.inl (2, n, .inr (.inr (.inr (.inr f))))) ∧ hat h q = some (.inr (3, fs)) ∧ vp_in i n ∧ nx g M Post F r ls (st) (h.set k (.inl (2, n, .inr (.inr (.inr (.inr (va_up f i.toNatClampNeg (some q)))))))) cl sl)
      | .arraylength => s1r st (fun k st => bIf (Nat.ble 1000 k) (match roI g k with
        | some (n, _) => nx g M Post F r ls (.int (Int32.ofNat n) :: st) h cl sl
        | none => match roB k with
          | some (n, _) => nx g M Post F r ls (.int (Int32.ofNat n) :: st) h cl sl
          | none => False))
      | .getstatic _ => match a with
        | 0 => nx g M Post F r ls (.ref 1003 :: st) h cl sl
        | 1 => nx g M Post F r ls (.ref 1004 :: st) h cl sl
        | 2 => nx g M Post F r ls (.int 1 :: st) h cl sl
        | 3 => nx g M Post F r ls (.null :: st) h cl sl ∧ nx g M Post F r ls (.ref 1020 :: st) h cl sl
        | _ => False
      | .invokevirtual _ => popR (m_np (mt a)) st (fun As k st => rcv (mt a) h k (cok M (mt a) cl sl ls st h (AC g (mt a) (.ref k :: As) h (fun rv h' => nx g M Post F r ls (rv.toList ++ st) h' (cl + m_mc (mt a)) (sl + m_ms (mt a))))))
      | .invokespecial _ => match b with
        | 2 => s1r st (fun _ st => bIf (Nat.ble ((st.map fun v => v.category).sum) 8) (nx g M Post F r ls (st) h cl sl))
        | _ => popR (m_np (mt a)) st (fun As k st => cok M (mt a) cl sl ls st h (AC g (mt a) (.ref k :: As) h (fun rv h' => nx g M Post F r ls (rv.toList ++ st) h' (cl + m_mc (mt a)) (sl + m_ms (mt a)))))
      | .invokestatic _ => match b with
        | 1 => scp st (fun n dp k1 sp k0 st => bIf (Nat.ble ((st.map fun v => v.category).sum) 8) (∃ n0 f0 n1 f1, hat h k0 = some (.inl (0, n0, .inl f0)) ∧ hat h k1 = some (.inl (0, n1, .inl f1)) ∧ (¬ sp < 0 ∧ ¬ dp < 0 ∧ ¬ n < 0 ∧ sp.toNatClampNeg + n.toNatClampNeg ≤ n0 ∧ dp.toNatClampNeg + n.toNatClampNeg ≤ n1) ∧ nx g M Post F r ls (st) (h.set k1 (.inl (0, n1, .inl (va_cpy f0 f1 sp.toNatClampNeg dp.toNatClampNeg n.toNatClampNeg)))) cl sl))
        | 2 => s1i st (fun x st => bIf (Nat.ble cl (m_mc M) && Nat.ble sl (m_ms M) && Nat.ble ((st.map fun v => v.category).sum) 8) (nx g M Post F r ls (.int (if 0 ≤ x then x else 0 - x) :: st) h cl sl))
        | 3 => s2i st (fun x y st => bIf (Nat.ble cl (m_mc M) && Nat.ble sl (m_ms M) && Nat.ble ((st.map fun v => v.category).sum) 8) (nx g M Post F r ls (.int (if y < x then y else x) :: st) h cl sl))
        | 9 => False
        | _ => popT (m_np (mt a)) st (fun As st => cok M (mt a) cl sl ls st h (AC g (mt a) (As) h (fun rv h' => nx g M Post F r ls (rv.toList ++ st) h' (cl + m_mc (mt a)) (sl + m_ms (mt a)))))
      | .new _ => mok M cl sl ls st h 1 (ctN a) (nx g M Post F r ls (.ref h.length :: st) (h ++ [.inr (a, dfl a)]) (cl + 1) (sl + ctN a))
      | .newarray _ => s1i st (fun n st => mok M cl sl ls st h 1 n.toNatClampNeg ((¬ n < 0 ∧ n.toNatClampNeg ≤ 1000) ∧ nx g M Post F r ls (.ref h.length :: st) (h ++ [.inl (a, n.toNatClampNeg, .inl (fun _ => 0))]) (cl + 1) (sl + n.toNatClampNeg)))
      | .anewarray _ => s1i st (fun n st => mok M cl sl ls st h 1 n.toNatClampNeg ((¬ n < 0 ∧ n.toNatClampNeg ≤ 1000) ∧ nx g M Post F r ls (.ref h.length :: st) (h ++ [.inl (2, n.toNatClampNeg, .inr (.inr (.inr (.inr (fun _ => none)))))]) (cl + 1) (sl + n.toNatClampNeg)))
      | .multianewarray _ _ => s2i st (fun n k st => mok M cl sl ls st h (1 + n.toNatClampNeg) (n.toNatClampNeg + n.toNatClampNeg * k.toNatClampNeg) ((¬ n < 0 ∧ ¬ k < 0 ∧ n.toNatClampNeg ≤ 50 ∧ k.toNatClampNeg ≤ 50) ∧ nx g M Post F r ls (.ref h.length :: st) (h ++ (.inl (3, n.toNatClampNeg, .inr (.inr (.inr (.inr (fun i => if i < n.toNatClampNeg then some (h.length + 1 + i) else none))))) :: List.replicate n.toNatClampNeg (.inl (0, k.toNatClampNeg, .inl (fun _ => 0))))) (cl + 1 + n.toNatClampNeg) (sl + n.toNatClampNeg + n.toNatClampNeg * k.toNatClampNeg)))
      | .ireturn => r1i st (fun x => zok (m_ret M) x (ret9 M cl sl (Post (some (.int x)) h)))
      | .lreturn => r1l st (fun x => ret9 M cl sl (Post (some (.long x)) h))
      | .freturn => r1f st (fun x => ret9 M cl sl (Post (some (.float x)) h))
      | .return_ => r0 st (ret9 M cl sl (Post none h))
      | _ => False
def wp (g : Glob) (mt : Nat → Mth) (M : Mth) (Post : Option Value → AH → Prop) : Nat → FT
  | 0 => fun _ _ _ _ _ _ => False
  | k + 1 => wpS g mt M Post (wp g mt M Post k)
end
section
def wAt (i : Nat) (x : Cond) : Bool := decide (lw_tbl[i]? = some x) && goodWord x
def wAt0 (i : Nat) (x : Cond) : Bool := decide (lw_tbl[i]? = some x)
theorem wAt_mem {i : Nat} {x : Cond} (h : wAt i x = true) : x ∈ lw_g := by
  simp only [wAt, Bool.and_eq_true, decide_eq_true_eq] at h
  exact List.mem_filter.mpr ⟨List.mem_of_getElem? h.1, h.2⟩
theorem wAt0_mem {i : Nat} {x : Cond} (h : wAt0 i x = true) : x ∈ lw_tbl := List.mem_of_getElem? (of_decide_eq_true h)
def ilen (i : Instr) (len : Nat) : Bool := match i with
  | .bipush _ | .ldc _ | .iload _ | .fload _ | .lload _ | .aload _ | .istore _ | .fstore _ | .lstore _ | .astore _ | .newarray _ => Nat.beq len 2
  | .sipush _ | .ldc_w _ | .ldc2_w _ | .iinc _ _ | .if_icmp _ _ | .ifCond _ _ | .goto _ | .getfield _ | .putfield _ | .getstatic _ | .invokevirtual _ | .invokespecial _ | .invokestatic _ | .new _ | .anewarray _ => Nat.beq len 3
  | .multianewarray _ _ => Nat.beq len 4
  | .tableswitch _ _ _ _ => true
  | _ => Nat.beq len 1
def chkR (M M' : Mth) : Bool := Nat.ble (m_dep M' + 1) (m_dep M) && Nat.ble (8 + (m_nL M' + 11) + 40 * m_dep M') (40 * m_dep M)
def chkX (mt : Nat → Mth) (M : Mth) (pc : Nat) (i : Instr) (a b c : Nat) (v : Int32) : Bool := match i with
  | .iconst n => decide (Int32.ofInt n = v)
  | .bipush n => decide ((Int8.ofInt n).toInt32 = v)
  | .sipush n => decide ((Int16.ofInt n).toInt32 = v)
  | .lconst n => decide (Int64.ofNat (n : Nat) = Int64.ofNat a)
  | .fconst n => decide (n = 0)
  | .iinc _ n => decide (Int32.ofInt n = v)
  | .ldc idx => match b with
    | 0 => wAt c (.constant (m_own M) idx v)
    | 1 => wAt c (.constantFloat (m_own M) idx (UInt32.ofNat a))
    | _ => decide (m_own M = "SceneShots$Reader") && ((Nat.beq idx 47 && Nat.beq a 1000) || (Nat.beq idx 56 && Nat.beq a 1001) || (Nat.beq idx 61 && Nat.beq a 1002))
  | .ldc_w idx => wAt c (.constant (m_own M) idx v)
  | .ldc2_w idx => wAt c (.constantLong (m_own M) idx (Int64.ofNat a))
  | .if_icmp _ off => decide ((pc : Int) + off = (a : Int))
  | .ifCond _ off => decide ((pc : Int) + off = (a : Int))
  | .goto off => decide ((pc : Int) + off = (a : Int))
  | .tableswitch dflt lo hi offs => decide ((pc : Int) + dflt = (a : Int)) && decide (lo + offs.toList.length = hi + 1) && offs.toList.all (fun o => decide (0 ≤ (pc : Int) + o))
  | .getfield idx => match Nat.blt a 7 with
    | true => Nat.blt b (ctN a) && wAt c (.fieldLink (m_own M) idx (ctT a b).1 (ctT a b).2.1 (ctT a b).2.2.1)
    | false => wAt c (.fieldLink (m_own M) idx "java/lang/String" (roN b).1 (roN b).2)
  | .putfield idx => Nat.blt a 7 && Nat.blt b (ctN a) && wAt c (.fieldLink (m_own M) idx (ctT a b).1 (ctT a b).2.1 (ctT a b).2.2.1) && (decide ((ctT a b).2.2.2 = false) || (decide ((m_y M).name = "<init>") && decide ((ctT a b).1 = m_own M)))
  | .getstatic idx => match a with
    | 0 => wAt0 c (.fieldLinkNest (m_own M) idx "SceneShots" "LOWEST" "[I" "SceneShots")
    | 1 => wAt0 c (.fieldLinkNest (m_own M) idx "SceneShots" "HIGHEST" "[I" "SceneShots")
    | 2 => wAt c (.fieldLink (m_own M) idx "java/lang/String" "COMPACT_STRINGS" "Z")
    | _ => wAt c (.fieldLink (m_own M) idx "jdk/internal/util/Preconditions" "SIOOBE_FORMATTER" "Ljava/util/function/BiFunction;")
  | .invokevirtual idx => Nat.blt a 200 && chkR M (mt a) && wAt c (.methodLink (m_own M) idx (m_y (mt a))) && wAt (m_wx (mt a)).1 (.instanceMethod (m_y (mt a))) && wAt (m_wx (mt a)).2.1 (.selects (m_y (mt a)).cls (m_y (mt a)) (m_y (mt a)))
  | .invokespecial idx => match b with
    | 2 => Nat.ble 1 (m_dep M) && wAt c (.methodLink (m_own M) idx Lib.objectInit)
    | _ => Nat.blt a 200 && chkR M (mt a) && (wAt c (.methodLink (m_own M) idx (m_y (mt a))) || wAt0 c (.methodLinkNest (m_own M) idx (m_y (mt a)) "SceneShots")) && wAt (m_wx (mt a)).1 (.instanceMethod (m_y (mt a))) && decide ((m_y (mt a)).name = "<init>") && decide (m_ret (mt a) = none)
  | .invokestatic idx => match b with
    | 1 => Nat.ble 1 (m_dep M) && wAt c (.methodLink (m_own M) idx arraycopyName)
    | 2 => Nat.ble 1 (m_dep M) && wAt c (.methodLink (m_own M) idx Lib.Math.abs.name)
    | 3 => Nat.ble 1 (m_dep M) && wAt c (.methodLink (m_own M) idx Lib.Math.min.name)
    | 9 => true
    | _ => Nat.blt a 200 && chkR M (mt a) && wAt c (.methodLink (m_own M) idx (m_y (mt a))) && wAt (m_wx (mt a)).1 (.static (m_y (mt a)))
  | .new idx => Nat.blt a 7 && wAt c (.classLink (m_own M) idx (ctR a)) && wAt b (.instantiable (ctR a) (ctN a)) && wAt v.toNatClampNeg (.initialized (ctR a))
  | .newarray t => match a with
    | 0 => decide (t = .int)
    | 1 => decide (t = .boolean)
    | _ => false
  | .anewarray idx => wAt c (.classLink (m_own M) idx "SceneShots$Scene")
  | .multianewarray idx d => decide (d = 2) && wAt c (.classLink (m_own M) idx "[[I")
  | .ireturn => (m_ret M).isSome
  | .lreturn => decide (m_ret M = some .long)
  | .freturn => decide (m_ret M = some .float)
  | .return_ => decide (m_ret M = none)
  | _ => true
def chkE (mt : Nat → Mth) (M : Mth) (e : En) : Bool := decide (decode (m_cc M) e.1 = .ok (e.2.2.1, e.2.1)) && ilen e.2.2.1 e.2.1 && chkX mt M e.1 e.2.2.1 e.2.2.2.1 e.2.2.2.2.1 e.2.2.2.2.2.1 e.2.2.2.2.2.2
def chkL (mt : Nat → Mth) (M : Mth) : List En → Bool
  | [] => true
  | e :: r => chkE mt M e && (match r with
    | [] => true
    | e2 :: _ => Nat.beq (e.1 + e.2.1) e2.1) && chkL mt M r
theorem dropTo_chk {mt : Nat → Mth} {M : Mth} (t : Nat) : ∀ l : List En, chkL mt M l = true → chkL mt M (dropTo t l) = true ∧ ∀ e r, dropTo t l = e :: r → e.1 = t := by
  intro l
  induction l with
  | nil => intro h; exact ⟨h, fun e r z => by cases z⟩
  | cons e l ih =>
    intro h
    unfold dropTo
    cases hb : Nat.beq e.1 t with
    | true => exact ⟨h, fun e2 r z => by cases z; exact Nat.eq_of_beq_eq_true hb⟩
    | false =>
      simp only [chkL, Bool.and_eq_true] at h
      exact ih h.2
def Sd (g : Glob) (mt : Nat → Mth) (M : Mth) (Post : Option Value → AH → Prop) (F : FT) : Prop := ∀ (r : List En) (ls : List (Option Value)) (st : List Value) (h : AH) (cl sl : Nat), chkL mt M r = true → F r ls st h cl sl → ∀ (e : En) (r' : List En), r = e :: r' → AW g M Post cl sl e.1 ls st h
theorem nx_of {g : Glob} {mt : Nat → Mth} {M : Mth} {Post : Option Value → AH → Prop} {F : FT} (hF : Sd g mt M Post F) {e : En} {r : List En} (hc : chkL mt M (e :: r) = true) {ls : List (Option Value)} {st : List Value} {h : AH} {cl sl : Nat} (hn : nx g M Post F r ls st h cl sl) : AW g M Post cl sl (e.1 + e.2.1) ls st h := by
  simp only [chkL, Bool.and_eq_true] at hc
  cases r with
  | nil => exact hn.elim
  | cons e2 r2 =>
    have e1 : e.1 + e.2.1 = e2.1 := Nat.eq_of_beq_eq_true hc.1.2
    rw [e1]
    replace hn : (match List.elem e2.1 (m_stops M) with
      | true => AW g M Post cl sl e2.1 ls st h
      | false => F (e2 :: r2) ls st h cl sl) := hn
    cases hs : (m_stops M).elem e2.1 with
    | true => rw [hs] at hn; exact hn
    | false => rw [hs] at hn; exact hF _ _ _ _ _ _ hc.2 hn e2 r2 rfl
theorem jp_of {g : Glob} {mt : Nat → Mth} {M : Mth} {Post : Option Value → AH → Prop} {F : FT} (hF : Sd g mt M Post F) (hF0 : ∀ ls st h cl sl, ¬ F [] ls st h cl sl) (hc : chkL mt M (m_code M) = true) {t : Nat} {ls : List (Option Value)} {st : List Value} {h : AH} {cl sl : Nat} (hn : jp g M Post F t ls st h cl sl) : AW g M Post cl sl t ls st h := by
  unfold jp at hn
  cases hs : (m_stops M).elem t with
  | true => rw [hs] at hn; exact hn
  | false =>
    rw [hs] at hn
    obtain ⟨h1, h2⟩ := dropTo_chk (mt := mt) (M := M) t (m_code M) hc
    cases hd : dropTo t (m_code M) with
    | nil => rw [hd] at hn; exact (hF0 _ _ _ _ _ hn).elim
    | cons e r =>
      rw [hd] at hn h1
      have := hF _ _ _ _ _ _ h1 hn e r rfl
      rw [h2 e r hd] at this
      exact this
theorem pop_st {n : Nat} {st As r : List Value} (h : popN n [] st = some (As, r)) : st = As.reverse ++ r ∧ As.length = n := by
  obtain ⟨h1, h2⟩ := popN_eq n [] st As r h
  exact ⟨by simpa using h1, by simpa using h2⟩
theorem cok_of {M M' : Mth} {cl sl : Nat} {ls : List (Option Value)} {st : List Value} {h : AH} {P : Prop} (hh : cok M M' cl sl ls st h P) : (cl + m_mc M' ≤ m_mc M ∧ sl + m_ms M' ≤ m_ms M) ∧ (st.map fun v => v.category).sum ≤ 8 ∧ (m_mc M' = 0 ∨ (h.length ≤ 1000 ∧ okS h.length st = true ∧ okL h.length ls = true)) ∧ P := by
  obtain ⟨h1, h2⟩ := bIf_of hh
  simp only [Bool.and_eq_true] at h1
  refine ⟨⟨Nat.le_of_ble_eq_true h1.1.1, Nat.le_of_ble_eq_true h1.1.2⟩, Nat.le_of_ble_eq_true h1.2, ?_⟩
  cases hb : Nat.beq (m_mc M') 0 with
  | true => rw [hb] at h2; exact ⟨Or.inl (Nat.eq_of_beq_eq_true hb), h2⟩
  | false => rw [hb] at h2; exact ⟨Or.inr h2.1, h2.2⟩
theorem mok_of {M : Mth} {cl sl : Nat} {ls : List (Option Value)} {st : List Value} {h : AH} {dc ds : Nat} {P : Prop} (hh : mok M cl sl ls st h dc ds P) : m_mc M ≠ 0 ∧ cl + dc ≤ m_mc M ∧ sl + ds ≤ m_ms M ∧ okH h = true ∧ okS h.length st = true ∧ okL h.length ls = true ∧ P := by
  obtain ⟨h1, h2⟩ := bIf_of hh
  simp only [Bool.and_eq_true, Bool.not_eq_true'] at h1
  exact ⟨fun z => (by have h9 := h1.1.1; rw [z] at h9; exact absurd h9 (by decide)), Nat.le_of_ble_eq_true h1.1.2, Nat.le_of_ble_eq_true h1.2, h2.1.1, h2.1.2.1, h2.1.2.2, h2.2⟩
theorem rcv_of {M' : Mth} {h : AH} {b : Nat} {P : Prop} (hh : rcv M' h b P) : ((∃ a fs, a < 7 ∧ hat h b = some (.inr (a, fs)) ∧ ctR a = (m_y M').cls) ∨ ((b = 1000 ∨ b = 1001 ∨ b = 1002) ∧ (m_y M').cls = "java/lang/String")) ∧ P := by
  unfold rcv at hh
  cases hb : Nat.blt b 1000 with
  | true =>
    rw [hb] at hh
    dsimp only at hh
    split at hh
    · rename_i a fs he
      obtain ⟨z1, z2⟩ := bIf_of hh
      simp only [Bool.and_eq_true, decide_eq_true_eq] at z1
      refine ⟨Or.inl ⟨a, fs, Nat.le_of_ble_eq_true z1.1, ?_, z1.2⟩, z2⟩
      unfold hat
      rw [hb]
      exact he
    · exact hh.elim
  | false =>
    rw [hb] at hh
    obtain ⟨z1, z2⟩ := bIf_of hh
    simp only [Bool.and_eq_true, Bool.or_eq_true, decide_eq_true_eq] at z1
    refine ⟨Or.inr ⟨?_, z1.2⟩, z2⟩
    rcases z1.1 with (z | z) | z
    · exact Or.inl (Nat.eq_of_beq_eq_true z)
    · exact Or.inr (Or.inl (Nat.eq_of_beq_eq_true z))
    · exact Or.inr (Or.inr (Nat.eq_of_beq_eq_true z))
theorem ret9_of {M : Mth} {cl sl : Nat} {P : Prop} (h : ret9 M cl sl P) : cl ≤ m_mc M ∧ sl ≤ m_ms M ∧ P := by
  obtain ⟨h1, h2⟩ := bIf_of h
  simp only [Bool.and_eq_true] at h1
  exact ⟨Nat.le_of_ble_eq_true h1.1, Nat.le_of_ble_eq_true h1.2, h2⟩
theorem zok_of {ty : Option FieldType} {v : Int32} {P : Prop} (h : zok ty v P) : ∃ t, ty = some t ∧ narrow t (.int v) = .int v ∧ P := by
  unfold zok at h
  split at h
  · exact ⟨.int, rfl, rfl, h⟩
  · exact ⟨_, rfl, h⟩
  · exact h.elim
theorem wpS_sound {g : Glob} {mt : Nat → Mth} {M : Mth} {Post : Option Value → AH → Prop} (hmt : ∀ a, a < 200 → MOK (mt a)) (hcode : chkL mt M (m_code M) = true) {F : FT} (hF : Sd g mt M Post F) (hF0 : ∀ ls st h cl sl, ¬ F [] ls st h cl sl) : Sd g mt M Post (wpS g mt M Post F) := by
  intro r0 ls st h cl sl hcr hw e r' hr
  subst hr
  have hce := hcr
  simp only [chkL, Bool.and_eq_true] at hce
  obtain ⟨⟨hce, -⟩, -⟩ := hce
  obtain ⟨pc, len, i, a, b, c, v⟩ := e
  have N : ∀ {ls : List (Option Value)} {st : List Value} {h : AH} {cl sl : Nat}, nx g M Post F r' ls st h cl sl → AW g M Post cl sl (pc + len) ls st h := fun z => nx_of hF hcr z
  have J : ∀ {t : Nat} {ls : List (Option Value)} {st : List Value} {h : AH} {cl sl : Nat}, jp g M Post F t ls st h cl sl → AW g M Post cl sl t ls st h := fun z => jp_of hF hF0 hcode z
  simp only [chkE, Bool.and_eq_true, decide_eq_true_eq] at hce
  obtain ⟨⟨hd, hlen⟩, hx⟩ := hce
  show AW g M Post cl sl pc ls st h
  cases i with
  | iconst n =>
    have hl : len = 1 := Nat.eq_of_beq_eq_true hlen
    subst hl
    exact aw_iconst hd (of_decide_eq_true hx) (N hw)
  | bipush n =>
    have hl : len = 2 := Nat.eq_of_beq_eq_true hlen
    subst hl
    exact aw_bipush hd (of_decide_eq_true hx) (N hw)
  | sipush n =>
    have hl : len = 3 := Nat.eq_of_beq_eq_true hlen
    subst hl
    exact aw_sipush hd (of_decide_eq_true hx) (N hw)
  | lconst n =>
    have hl : len = 1 := Nat.eq_of_beq_eq_true hlen
    subst hl
    exact aw_lconst hd (of_decide_eq_true hx) (N hw)
  | fconst n =>
    have hl : len = 1 := Nat.eq_of_beq_eq_true hlen
    subst hl
    have hz : n = 0 := of_decide_eq_true hx
    subst hz
    exact aw_fconst0 hd (N hw)
  | ldc idx =>
    have hl : len = 2 := Nat.eq_of_beq_eq_true hlen
    subst hl
    match b, hx, hw with
    | 0, hx, hw => exact aw_ldc hd (wAt_mem hx) (N hw)
    | 1, hx, hw => exact aw_ldcf hd (wAt_mem hx) (N hw)
    | b + 2, hx, hw =>
      have hx2 : (decide (m_own M = "SceneShots$Reader") && ((Nat.beq idx 47 && Nat.beq a 1000) || (Nat.beq idx 56 && Nat.beq a 1001) || (Nat.beq idx 61 && Nat.beq a 1002))) = true := hx
      simp only [Bool.and_eq_true, Bool.or_eq_true, decide_eq_true_eq] at hx2
      obtain ⟨ho, (⟨z1, z2⟩ | ⟨z1, z2⟩) | ⟨z1, z2⟩⟩ := hx2
      · have z1 := Nat.eq_of_beq_eq_true z1
        have z2 := Nat.eq_of_beq_eq_true z2
        subst z1; subst z2
        exact aw_ldcS (tx := "players") hd (by decide) (fun G => by rw [ho]; exact G.2.2.2.2.2.2.2.1.1) (N hw)
      · have z1 := Nat.eq_of_beq_eq_true z1
        have z2 := Nat.eq_of_beq_eq_true z2
        subst z1; subst z2
        exact aw_ldcS (tx := "lines") hd (by decide) (fun G => by rw [ho]; exact G.2.2.2.2.2.2.2.1.2.1) (N hw)
      · have z1 := Nat.eq_of_beq_eq_true z1
        have z2 := Nat.eq_of_beq_eq_true z2
        subst z1; subst z2
        exact aw_ldcS (tx := "shot") hd (by decide) (fun G => by rw [ho]; exact G.2.2.2.2.2.2.2.1.2.2.1) (N hw)
  | ldc_w idx =>
    have hl : len = 3 := Nat.eq_of_beq_eq_true hlen
    subst hl
    exact aw_ldcw hd (wAt_mem hx) (N hw)
  | ldc2_w idx =>
    have hl : len = 3 := Nat.eq_of_beq_eq_true hlen
    subst hl
    exact aw_ldc2 hd (wAt_mem hx) (N hw)
  | iload_n j =>
    have hl : len = 1 := Nat.eq_of_beq_eq_true hlen
    subst hl
    obtain ⟨x, h1, hw⟩ := lI_of hw
    exact aw_iload_n hd h1 (N hw)
  | iload j =>
    have hl : len = 2 := Nat.eq_of_beq_eq_true hlen
    subst hl
    obtain ⟨x, h1, hw⟩ := lI_of hw
    exact aw_iload hd h1 (N hw)
  | fload_n j =>
    have hl : len = 1 := Nat.eq_of_beq_eq_true hlen
    subst hl
    obtain ⟨x, h1, hw⟩ := lF_of hw
    exact aw_fload_n hd h1 (N hw)
  | fload j =>
    have hl : len = 2 := Nat.eq_of_beq_eq_true hlen
    subst hl
    obtain ⟨x, h1, hw⟩ := lF_of hw
    exact aw_fload hd h1 (N hw)
  | lload_n j =>
    have hl : len = 1 := Nat.eq_of_beq_eq_true hlen
    subst hl
    obtain ⟨x, h1, hw⟩ := lL_of hw
    exact aw_lload_n hd h1 (N hw)
  | lload j =>
    have hl : len = 2 := Nat.eq_of_beq_eq_true hlen
    subst hl
    obtain ⟨x, h1, hw⟩ := lL_of hw
    exact aw_lload hd h1 (N hw)
  | aload_n j =>
    have hl : len = 1 := Nat.eq_of_beq_eq_true hlen
    subst hl
    obtain ⟨x, h1, hw⟩ := lR_of hw
    exact aw_aload_n hd h1 (N hw)
  | aload j =>
    have hl : len = 2 := Nat.eq_of_beq_eq_true hlen
    subst hl
    obtain ⟨x, h1, hw⟩ := lR_of hw
    exact aw_aload hd h1 (N hw)
  | istore_n j =>
    have hl : len = 1 := Nat.eq_of_beq_eq_true hlen
    subst hl
    obtain ⟨x, st, rfl, hw⟩ := s1i_of hw
    obtain ⟨h1, hw⟩ := bIf_of hw
    simp only [Bool.and_eq_true, Bool.not_eq_true'] at h1
    exact aw_istore_n hd rfl (Nat.le_of_ble_eq_true h1.1) h1.2 (N hw)
  | istore j =>
    have hl : len = 2 := Nat.eq_of_beq_eq_true hlen
    subst hl
    obtain ⟨x, st, rfl, hw⟩ := s1i_of hw
    obtain ⟨h1, hw⟩ := bIf_of hw
    simp only [Bool.and_eq_true, Bool.not_eq_true'] at h1
    exact aw_istore hd (Nat.le_of_ble_eq_true h1.1) h1.2 (N hw)
  | fstore_n j =>
    have hl : len = 1 := Nat.eq_of_beq_eq_true hlen
    subst hl
    obtain ⟨x, st, rfl, hw⟩ := s1f_of hw
    obtain ⟨h1, hw⟩ := bIf_of hw
    simp only [Bool.and_eq_true, Bool.not_eq_true'] at h1
    exact aw_fstore_n hd rfl (Nat.le_of_ble_eq_true h1.1) h1.2 (N hw)
  | fstore j =>
    have hl : len = 2 := Nat.eq_of_beq_eq_true hlen
    subst hl
    obtain ⟨x, st, rfl, hw⟩ := s1f_of hw
    obtain ⟨h1, hw⟩ := bIf_of hw
    simp only [Bool.and_eq_true, Bool.not_eq_true'] at h1
    exact aw_fstore hd (Nat.le_of_ble_eq_true h1.1) h1.2 (N hw)
  | astore_n j =>
    have hl : len = 1 := Nat.eq_of_beq_eq_true hlen
    subst hl
    obtain ⟨x, st, rfl, hw⟩ := s1r_of hw
    obtain ⟨h1, hw⟩ := bIf_of hw
    simp only [Bool.and_eq_true, Bool.not_eq_true'] at h1
    exact aw_astore_n hd rfl (Nat.le_of_ble_eq_true h1.1) h1.2 (N hw)
  | astore j =>
    have hl : len = 2 := Nat.eq_of_beq_eq_true hlen
    subst hl
    obtain ⟨x, st, rfl, hw⟩ := s1r_of hw
    obtain ⟨h1, hw⟩ := bIf_of hw
    simp only [Bool.and_eq_true, Bool.not_eq_true'] at h1
    exact aw_astore hd (Nat.le_of_ble_eq_true h1.1) h1.2 (N hw)
  | lstore_n j =>
    have hl : len = 1 := Nat.eq_of_beq_eq_true hlen
    subst hl
    obtain ⟨x, st, rfl, hw⟩ := s1l_of hw
    obtain ⟨h1, hw⟩ := bIf_of hw
    simp only [Bool.and_eq_true, Bool.not_eq_true'] at h1
    exact aw_lstore_n hd rfl (Nat.le_of_ble_eq_true h1.1) h1.2 (N hw)
  | lstore j =>
    have hl : len = 2 := Nat.eq_of_beq_eq_true hlen
    subst hl
    obtain ⟨x, st, rfl, hw⟩ := s1l_of hw
    obtain ⟨h1, hw⟩ := bIf_of hw
    simp only [Bool.and_eq_true, Bool.not_eq_true'] at h1
    exact aw_lstore hd (Nat.le_of_ble_eq_true h1.1) h1.2 (N hw)
  | iinc j n =>
    have hl : len = 3 := Nat.eq_of_beq_eq_true hlen
    subst hl
    obtain ⟨x, h0, hw⟩ := lI_of hw
    obtain ⟨h1, hw⟩ := bIf_of hw
    simp only [Bool.and_eq_true, Bool.not_eq_true'] at h1
    exact aw_iinc hd h0 (of_decide_eq_true hx) (Nat.le_of_ble_eq_true h1.1) h1.2 (N hw)
  | iadd =>
    have hl : len = 1 := Nat.eq_of_beq_eq_true hlen
    subst hl
    obtain ⟨x, y, st, rfl, hw⟩ := s2i_of hw
    exact aw_iadd hd (N hw)
  | isub =>
    have hl : len = 1 := Nat.eq_of_beq_eq_true hlen
    subst hl
    obtain ⟨x, y, st, rfl, hw⟩ := s2i_of hw
    exact aw_isub hd (N hw)
  | imul =>
    have hl : len = 1 := Nat.eq_of_beq_eq_true hlen
    subst hl
    obtain ⟨x, y, st, rfl, hw⟩ := s2i_of hw
    exact aw_imul hd (N hw)
  | iand =>
    have hl : len = 1 := Nat.eq_of_beq_eq_true hlen
    subst hl
    obtain ⟨x, y, st, rfl, hw⟩ := s2i_of hw
    exact aw_iand hd (N hw)
  | ior =>
    have hl : len = 1 := Nat.eq_of_beq_eq_true hlen
    subst hl
    obtain ⟨x, y, st, rfl, hw⟩ := s2i_of hw
    exact aw_ior hd (N hw)
  | ixor =>
    have hl : len = 1 := Nat.eq_of_beq_eq_true hlen
    subst hl
    obtain ⟨x, y, st, rfl, hw⟩ := s2i_of hw
    exact aw_ixor hd (N hw)
  | ishl =>
    have hl : len = 1 := Nat.eq_of_beq_eq_true hlen
    subst hl
    obtain ⟨x, y, st, rfl, hw⟩ := s2i_of hw
    exact aw_ishl hd (N hw)
  | ishr =>
    have hl : len = 1 := Nat.eq_of_beq_eq_true hlen
    subst hl
    obtain ⟨x, y, st, rfl, hw⟩ := s2i_of hw
    exact aw_ishr hd (N hw)
  | iushr =>
    have hl : len = 1 := Nat.eq_of_beq_eq_true hlen
    subst hl
    obtain ⟨x, y, st, rfl, hw⟩ := s2i_of hw
    exact aw_iushr hd (N hw)
  | ineg =>
    have hl : len = 1 := Nat.eq_of_beq_eq_true hlen
    subst hl
    obtain ⟨x, st, rfl, hw⟩ := s1i_of hw
    exact aw_ineg hd (N hw)
  | i2l =>
    have hl : len = 1 := Nat.eq_of_beq_eq_true hlen
    subst hl
    obtain ⟨x, st, rfl, hw⟩ := s1i_of hw
    exact aw_i2l hd (N hw)
  | i2c =>
    have hl : len = 1 := Nat.eq_of_beq_eq_true hlen
    subst hl
    obtain ⟨x, st, rfl, hw⟩ := s1i_of hw
    exact aw_i2c hd (N hw)
  | i2f =>
    have hl : len = 1 := Nat.eq_of_beq_eq_true hlen
    subst hl
    obtain ⟨x, st, rfl, hw⟩ := s1i_of hw
    exact aw_i2f hd (N hw)
  | f2i =>
    have hl : len = 1 := Nat.eq_of_beq_eq_true hlen
    subst hl
    obtain ⟨x, st, rfl, hw⟩ := s1f_of hw
    exact aw_f2i hd (N hw)
  | ladd =>
    have hl : len = 1 := Nat.eq_of_beq_eq_true hlen
    subst hl
    obtain ⟨x, y, st, rfl, hw⟩ := s2l_of hw
    exact aw_ladd hd (N hw)
  | lsub =>
    have hl : len = 1 := Nat.eq_of_beq_eq_true hlen
    subst hl
    obtain ⟨x, y, st, rfl, hw⟩ := s2l_of hw
    exact aw_lsub hd (N hw)
  | lmul =>
    have hl : len = 1 := Nat.eq_of_beq_eq_true hlen
    subst hl
    obtain ⟨x, y, st, rfl, hw⟩ := s2l_of hw
    exact aw_lmul hd (N hw)
  | lcmp =>
    have hl : len = 1 := Nat.eq_of_beq_eq_true hlen
    subst hl
    obtain ⟨x, y, st, rfl, hw⟩ := s2l_of hw
    exact aw_lcmp hd (N hw)
  | fadd =>
    have hl : len = 1 := Nat.eq_of_beq_eq_true hlen
    subst hl
    obtain ⟨x, y, st, rfl, h1, hw⟩ := s2f_of hw
    exact aw_fadd hd h1 (N hw)
  | fmul =>
    have hl : len = 1 := Nat.eq_of_beq_eq_true hlen
    subst hl
    obtain ⟨x, y, st, rfl, h1, hw⟩ := s2f_of hw
    exact aw_fmul hd h1 (N hw)
  | fdiv =>
    have hl : len = 1 := Nat.eq_of_beq_eq_true hlen
    subst hl
    obtain ⟨x, y, st, rfl, h1, hw⟩ := s2f_of hw
    exact aw_fdiv hd h1 (N hw)
  | fcmp op =>
    have hl : len = 1 := Nat.eq_of_beq_eq_true hlen
    subst hl
    obtain ⟨x, y, st, rfl, hw⟩ := s2f_of hw
    exact aw_fcmp hd (N hw)
  | dup =>
    have hl : len = 1 := Nat.eq_of_beq_eq_true hlen
    subst hl
    obtain ⟨x, st, rfl, h1, hw⟩ := s1v_of hw
    exact aw_dup hd h1 (N hw)
  | pop =>
    have hl : len = 1 := Nat.eq_of_beq_eq_true hlen
    subst hl
    obtain ⟨x, st, rfl, h1, hw⟩ := s1v_of hw
    exact aw_pop hd h1 (N hw)
  | dup2 =>
    have hl : len = 1 := Nat.eq_of_beq_eq_true hlen
    subst hl
    obtain ⟨x, y, st, rfl, h1, h2, hw⟩ := s2v_of hw
    exact aw_dup2 hd h1 h2 (N hw)
  | if_icmp cnd off =>
    have hl : len = 3 := Nat.eq_of_beq_eq_true hlen
    subst hl
    obtain ⟨x, y, st, rfl, hw⟩ := s2i_of hw
    have ht : (pc : Int) + off = (a : Int) := of_decide_eq_true hx
    cases cnd with
    | eq => exact aw_icmp_eq hd ht (fun z => J (hw.1 z)) (fun z => N (hw.2 z))
    | ne => exact aw_icmp_ne hd ht (fun z => J (hw.1 z)) (fun z => N (hw.2 z))
    | lt => exact aw_icmp_lt hd ht (fun z => J (hw.1 z)) (fun z => N (hw.2 z))
    | ge => exact aw_icmp_ge hd ht (fun z => J (hw.1 z)) (fun z => N (hw.2 z))
    | gt => exact aw_icmp_gt hd ht (fun z => J (hw.1 z)) (fun z => N (hw.2 z))
    | le => exact aw_icmp_le hd ht (fun z => J (hw.1 z)) (fun z => N (hw.2 z))
  | ifCond cnd off =>
    have hl : len = 3 := Nat.eq_of_beq_eq_true hlen
    subst hl
    obtain ⟨x, st, rfl, hw⟩ := s1i_of hw
    have ht : (pc : Int) + off = (a : Int) := of_decide_eq_true hx
    cases cnd with
    | eq => exact aw_if_eq hd ht (fun z => J (hw.1 z)) (fun z => N (hw.2 z))
    | ne => exact aw_if_ne hd ht (fun z => J (hw.1 z)) (fun z => N (hw.2 z))
    | lt => exact aw_if_lt hd ht (fun z => J (hw.1 z)) (fun z => N (hw.2 z))
    | ge => exact aw_if_ge hd ht (fun z => J (hw.1 z)) (fun z => N (hw.2 z))
    | gt => exact aw_if_gt hd ht (fun z => J (hw.1 z)) (fun z => N (hw.2 z))
    | le => exact aw_if_le hd ht (fun z => J (hw.1 z)) (fun z => N (hw.2 z))
  | goto off =>
    have hl : len = 3 := Nat.eq_of_beq_eq_true hlen
    subst hl
    exact aw_goto hd (of_decide_eq_true hx) (J hw)
  | tableswitch dflt lo hi offs =>
    obtain ⟨x, st, rfl, h1, hw⟩ := s1i_of hw
    have hx2 : (decide ((pc : Int) + dflt = (a : Int)) && decide (lo + offs.toList.length = hi + 1) && offs.toList.all (fun o => decide (0 ≤ (pc : Int) + o))) = true := hx
    simp only [Bool.and_eq_true, decide_eq_true_eq] at hx2
    refine aw_tsw hd hx2.1.1 (fun z => J (h1 z)) (fun z1 z2 => ?_)
    obtain ⟨off, y1, y2⟩ := swp_get offs.toList lo hw (by omega) (by have := hx2.1.2; omega)
    have y3 : 0 ≤ (pc : Int) + off := of_decide_eq_true (List.all_eq_true.mp hx2.2 off (List.mem_of_getElem? y1))
    exact ⟨off, ((pc : Int) + off).toNat, by rw [← Array.getElem?_toList]; exact y1, by omega, J y2⟩
  | getfield idx =>
    have hl : len = 3 := Nat.eq_of_beq_eq_true hlen
    subst hl
    obtain ⟨k, st, rfl, hw⟩ := s1r_of hw
    rcases bEl_of hw with ⟨h7, hw⟩ | ⟨h7, hw⟩
    · simp only [chkX, h7, Bool.and_eq_true] at hx
      obtain ⟨fs, h1, hw⟩ := oO_of hw
      obtain ⟨y, h2, hw⟩ := oV_of hw
      exact aw_get hd (Nat.le_of_ble_eq_true h7) (Nat.le_of_ble_eq_true hx.1) (wAt_mem hx.2) h1 h2 (N hw)
    · simp only [chkX, h7] at hx
      obtain ⟨y, h2, hw⟩ := oV_of hw
      exact aw_roF hd (wAt_mem hx) h2 (N hw)
  | putfield idx =>
    have hl : len = 3 := Nat.eq_of_beq_eq_true hlen
    subst hl
    obtain ⟨y, k, st, rfl, hw⟩ := svr_of hw
    obtain ⟨fs, h1, hw⟩ := oO_of hw
    obtain ⟨h2, hw⟩ := bIf_of hw
    obtain ⟨h3, h4, hw⟩ := pok_of hw g
    simp only [chkX, Bool.and_eq_true, Bool.or_eq_true, decide_eq_true_eq] at hx
    exact aw_put hd (Nat.le_of_ble_eq_true hx.1.1.1) (Nat.le_of_ble_eq_true hx.1.1.2) (wAt_mem hx.1.2) h1 (Nat.le_of_ble_eq_true h2) hx.2 h3 h4 (N hw)
  | iaload =>
    have hl : len = 1 := Nat.eq_of_beq_eq_true hlen
    subst hl
    obtain ⟨i, k, st, rfl, hw⟩ := sir_of hw
    rcases bEl_of hw with ⟨h7, n, f, h1, h2, hw⟩ | ⟨h7, n, f, h1, h2, hw⟩
    · exact aw_iald hd h1 h2 (N hw)
    · exact aw_roI hd (fun z => by rw [show Nat.blt k 1000 = true from Nat.ble_eq_true_of_le z] at h7; cases h7) h1 h2 (N hw)
  | baload =>
    have hl : len = 1 := Nat.eq_of_beq_eq_true hlen
    subst hl
    obtain ⟨i, k, st, rfl, hw⟩ := sir_of hw
    rcases bEl_of hw with ⟨h7, n, f, h1, h2, hw⟩ | ⟨h7, n, f, h1, h2, hw⟩
    · exact aw_zald hd h1 h2 (N hw)
    · exact aw_roB hd (fun z => by rw [show Nat.blt k 1000 = true from Nat.ble_eq_true_of_le z] at h7; cases h7) h1 h2 (N hw)
  | iastore =>
    have hl : len = 1 := Nat.eq_of_beq_eq_true hlen
    subst hl
    obtain ⟨x, i, k, st, rfl, n, f, h1, h2, hw⟩ := siir_of hw
    exact aw_iast hd h1 h2 (N hw)
  | bastore =>
    have hl : len = 1 := Nat.eq_of_beq_eq_true hlen
    subst hl
    obtain ⟨x, i, k, st, rfl, n, f, h1, h2, hw⟩ := siir_of hw
    exact aw_zast hd h1 h2 (N hw)
  | aaload =>
    have hl : len = 1 := Nat.eq_of_beq_eq_true hlen
    subst hl
    obtain ⟨i, k, st, rfl, t, n, f, q, h0, h1, h2, h3, hw⟩ := sir_of hw
    exact aw_aald hd h0 h1 h2 h3 (N hw)
  | aastore =>
    have hl : len = 1 := Nat.eq_of_beq_eq_true hlen
    subst hl
    obtain ⟨q, i, k, st, rfl, n, f, fs, h1, h2, h3, hw⟩ := srir_of hw
    exact aw_aast hd h1 h3 h2 (N hw)
  | arraylength =>
    have hl : len = 1 := Nat.eq_of_beq_eq_true hlen
    subst hl
    obtain ⟨k, st, rfl, hw⟩ := s1r_of hw
    obtain ⟨h1, hw⟩ := bIf_of hw
    have hk : ¬ k < 1000 := Nat.not_lt.mpr (Nat.le_of_ble_eq_true h1)
    split at hw
    · rename_i n f he
      exact aw_lenI hd hk he (N hw)
    · split at hw
      · rename_i n f he
        exact aw_lenB hd hk he (N hw)
      · exact hw.elim
  | getstatic idx =>
    have hl : len = 3 := Nat.eq_of_beq_eq_true hlen
    subst hl
    match a, hx, hw with
    | 0, hx, hw => exact aw_gsN (ref := "") hd (wAt0_mem hx) (by decide) (fun G => G.2.2.2.2.1.1) (N hw)
    | 1, hx, hw => exact aw_gsN (ref := "") hd (wAt0_mem hx) (by decide) (fun G => G.2.2.2.2.1.2) (N hw)
    | 2, hx, hw => exact aw_gsI hd (wAt_mem hx) (fun G => G.2.2.2.2.2.1) (N hw)
    | 3, hx, hw => exact aw_gsF hd (wAt_mem hx) (N hw.1) (N hw.2)
    | a + 4, hx, hw => exact False.elim hw
  | invokevirtual idx =>
    have hl : len = 3 := Nat.eq_of_beq_eq_true hlen
    subst hl
    simp only [chkX, chkR, Bool.and_eq_true] at hx
    obtain ⟨⟨⟨⟨x1, x2⟩, x3⟩, x4⟩, x5⟩ := hx
    obtain ⟨As, k, st2, he, hw⟩ := popR_of hw
    obtain ⟨e1, e2⟩ := pop_st he
    rw [e1]
    obtain ⟨h1, hw⟩ := rcv_of hw
    obtain ⟨h2, h3, h4, hw⟩ := cok_of hw
    exact aw_callV hd (hmt a (Nat.le_of_ble_eq_true x1)) ⟨Nat.le_of_ble_eq_true x2.1, Nat.le_of_ble_eq_true x2.2⟩ (wAt_mem x3) (wAt_mem x4) (wAt_mem x5) h1 e2 h3 h2 h4 (ac_mono hw (fun rv h' z => N z))
  | invokespecial idx =>
    have hl : len = 3 := Nat.eq_of_beq_eq_true hlen
    subst hl
    by_cases hb2 : b = 2
    · subst hb2
      simp only [chkX, Bool.and_eq_true] at hx
      obtain ⟨k, st, rfl, hw⟩ := s1r_of hw
      obtain ⟨h1, hw⟩ := bIf_of hw
      exact aw_obj hd (wAt_mem hx.2) (Nat.le_of_ble_eq_true hx.1) (Nat.le_of_ble_eq_true h1) (N hw)
    · have hx2 : (Nat.blt a 200 && chkR M (mt a) && (wAt c (.methodLink (m_own M) idx (m_y (mt a))) || wAt0 c (.methodLinkNest (m_own M) idx (m_y (mt a)) "SceneShots")) && wAt (m_wx (mt a)).1 (.instanceMethod (m_y (mt a))) && decide ((m_y (mt a)).name = "<init>") && decide (m_ret (mt a) = none)) = true := by
        match b, hb2, hx with
        | 0, _, hx => exact hx
        | 1, _, hx => exact hx
        | b + 3, _, hx => exact hx
      have hw2 : popR (m_np (mt a)) st (fun As k st => cok M (mt a) cl sl ls st h (AC g (mt a) (.ref k :: As) h (fun rv h' => nx g M Post F r' ls (rv.toList ++ st) h' (cl + m_mc (mt a)) (sl + m_ms (mt a))))) := by
        match b, hb2, hw with
        | 0, _, hw => exact hw
        | 1, _, hw => exact hw
        | b + 3, _, hw => exact hw
      simp only [chkR, Bool.and_eq_true, Bool.or_eq_true, decide_eq_true_eq] at hx2
      obtain ⟨⟨⟨⟨⟨x1, x2⟩, x3⟩, x4⟩, x5⟩, x6⟩ := hx2
      obtain ⟨As, k, st2, he, hw2⟩ := popR_of hw2
      · obtain ⟨e1, e2⟩ := pop_st he
        rw [e1]
        obtain ⟨h2, h3, h4, hw2⟩ := cok_of hw2
        have hq : Cond.methodLink (m_own M) idx (m_y (mt a)) ∈ lw_g ∨ ∃ host, Cond.methodLinkNest (m_own M) idx (m_y (mt a)) host ∈ lw_tbl := by
          rcases x3 with x3 | x3
          · exact Or.inl (wAt_mem x3)
          · exact Or.inr ⟨_, wAt0_mem x3⟩
        exact aw_callI hd (hmt a (Nat.le_of_ble_eq_true x1)) ⟨Nat.le_of_ble_eq_true x2.1, Nat.le_of_ble_eq_true x2.2⟩ hq (wAt_mem x4) x5 x6 e2 h3 h2 h4 (ac_mono hw2 (fun rv h' z => N z))
  | invokestatic idx =>
    have hl : len = 3 := Nat.eq_of_beq_eq_true hlen
    subst hl
    by_cases hb1 : b = 1
    · subst hb1
      simp only [chkX, Bool.and_eq_true] at hx
      obtain ⟨n, dp, k1, sp, k0, st, rfl, hw⟩ := scp_of hw
      obtain ⟨h1, n0, f0, n1, f1, h2, h3, ⟨y1, y2, y3, y4, y5⟩, hw⟩ := bIf_of hw
      exact aw_cpy hd (wAt_mem hx.2) (Nat.le_of_ble_eq_true hx.1) (Nat.le_of_ble_eq_true h1) h2 h3 y1 y2 y3 y4 y5 (N hw)
    by_cases hb2 : b = 2
    · subst hb2
      simp only [chkX, Bool.and_eq_true] at hx
      obtain ⟨x, st, rfl, hw⟩ := s1i_of hw
      obtain ⟨h1, hw⟩ := bIf_of hw
      simp only [Bool.and_eq_true] at h1
      exact aw_abs hd (wAt_mem hx.2) (Nat.le_of_ble_eq_true hx.1) (Nat.le_of_ble_eq_true h1.2) ⟨Nat.le_of_ble_eq_true h1.1.1, Nat.le_of_ble_eq_true h1.1.2⟩ (N hw)
    by_cases hb3 : b = 3
    · subst hb3
      simp only [chkX, Bool.and_eq_true] at hx
      obtain ⟨x, y, st, rfl, hw⟩ := s2i_of hw
      obtain ⟨h1, hw⟩ := bIf_of hw
      simp only [Bool.and_eq_true] at h1
      exact aw_min hd (wAt_mem hx.2) (Nat.le_of_ble_eq_true hx.1) (Nat.le_of_ble_eq_true h1.2) ⟨Nat.le_of_ble_eq_true h1.1.1, Nat.le_of_ble_eq_true h1.1.2⟩ (N hw)
    by_cases hb9 : b = 9
    · subst hb9
      exact False.elim hw
    have hx2 : (Nat.blt a 200 && chkR M (mt a) && wAt c (.methodLink (m_own M) idx (m_y (mt a))) && wAt (m_wx (mt a)).1 (.static (m_y (mt a)))) = true := by
      match b, hb1, hb2, hb3, hb9, hx with
      | 0, _, _, _, _, hx => exact hx
      | 4, _, _, _, _, hx => exact hx
      | 5, _, _, _, _, hx => exact hx
      | 6, _, _, _, _, hx => exact hx
      | 7, _, _, _, _, hx => exact hx
      | 8, _, _, _, _, hx => exact hx
      | b + 10, _, _, _, _, hx => exact hx
    have hw2 : popT (m_np (mt a)) st (fun As st => cok M (mt a) cl sl ls st h (AC g (mt a) As h (fun rv h' => nx g M Post F r' ls (rv.toList ++ st) h' (cl + m_mc (mt a)) (sl + m_ms (mt a))))) := by
      match b, hb1, hb2, hb3, hb9, hw with
      | 0, _, _, _, _, hw => exact hw
      | 4, _, _, _, _, hw => exact hw
      | 5, _, _, _, _, hw => exact hw
      | 6, _, _, _, _, hw => exact hw
      | 7, _, _, _, _, hw => exact hw
      | 8, _, _, _, _, hw => exact hw
      | b + 10, _, _, _, _, hw => exact hw
    simp only [chkR, Bool.and_eq_true] at hx2
    obtain ⟨⟨⟨x1, x2⟩, x3⟩, x4⟩ := hx2
    obtain ⟨As, st2, he, hw2⟩ := popT_of hw2
    obtain ⟨e1, e2⟩ := pop_st he
    rw [e1]
    obtain ⟨h2, h3, h4, hw2⟩ := cok_of hw2
    exact aw_callS hd (hmt a (Nat.le_of_ble_eq_true x1)) ⟨Nat.le_of_ble_eq_true x2.1, Nat.le_of_ble_eq_true x2.2⟩ (wAt_mem x3) (wAt_mem x4) e2 h3 h2 h4 (ac_mono hw2 (fun rv h' z => N z))
  | new idx =>
    have hl : len = 3 := Nat.eq_of_beq_eq_true hlen
    subst hl
    simp only [chkX, Bool.and_eq_true] at hx
    obtain ⟨⟨⟨x1, x2⟩, x3⟩, x4⟩ := hx
    obtain ⟨h1, h2, h3, h4, h5, h6, hw⟩ := mok_of hw
    exact aw_new hd (Nat.le_of_ble_eq_true x1) (wAt_mem x2) (wAt_mem x3) (wAt_mem x4) h1 h2 h3 h4 h5 h6 (N hw)
  | newarray t =>
    have hl : len = 2 := Nat.eq_of_beq_eq_true hlen
    subst hl
    obtain ⟨n, st, rfl, hw⟩ := s1i_of hw
    obtain ⟨h1, h2, h3, h4, h5, h6, ⟨h7, h8⟩, hw⟩ := mok_of hw
    match a, hx, hw with
    | 0, hx, hw =>
      have ht : t = .int := of_decide_eq_true hx
      subst ht
      exact aw_newI hd h7 h8 h1 h2 h3 h4 h5 h6 (N hw)
    | 1, hx, hw =>
      have ht : t = .boolean := of_decide_eq_true hx
      subst ht
      exact aw_newZ hd h7 h8 h1 h2 h3 h4 h5 h6 (N hw)
    | a + 2, hx, hw => cases hx
  | anewarray idx =>
    have hl : len = 3 := Nat.eq_of_beq_eq_true hlen
    subst hl
    obtain ⟨n, st, rfl, hw⟩ := s1i_of hw
    obtain ⟨h1, h2, h3, h4, h5, h6, ⟨h7, h8⟩, hw⟩ := mok_of hw
    exact aw_newQ hd (wAt_mem hx) h7 h8 h1 h2 h3 h4 h5 h6 (N hw)
  | multianewarray idx d =>
    have hl : len = 4 := Nat.eq_of_beq_eq_true hlen
    subst hl
    simp only [chkX, Bool.and_eq_true, decide_eq_true_eq] at hx
    have hd2 := hx.1
    subst hd2
    obtain ⟨n, k, st, rfl, hw⟩ := s2i_of hw
    obtain ⟨h1, h2, h3, h4, h5, h6, ⟨h7, h8, h9, h10⟩, hw⟩ := mok_of hw
    exact aw_newM hd (wAt_mem hx.2) h7 h8 h9 h10 h1 h2 h3 h4 h5 h6 (N hw)
  | ireturn =>
    have hl : len = 1 := Nat.eq_of_beq_eq_true hlen
    subst hl
    obtain ⟨x, rfl, hw⟩ := r1i_of hw
    obtain ⟨t, h1, h2, hw⟩ := zok_of hw
    obtain ⟨h3, h4, hw⟩ := ret9_of hw
    exact aw_zret (st := []) hd h1 h2 h3 h4 hw
  | lreturn =>
    have hl : len = 1 := Nat.eq_of_beq_eq_true hlen
    subst hl
    obtain ⟨x, rfl, hw⟩ := r1l_of hw
    obtain ⟨h3, h4, hw⟩ := ret9_of hw
    exact aw_lret (st := []) hd (of_decide_eq_true hx) h3 h4 hw
  | freturn =>
    have hl : len = 1 := Nat.eq_of_beq_eq_true hlen
    subst hl
    obtain ⟨x, rfl, hw⟩ := r1f_of hw
    obtain ⟨h3, h4, hw⟩ := ret9_of hw
    exact aw_fret (st := []) hd (of_decide_eq_true hx) h3 h4 hw
  | return_ =>
    have hl : len = 1 := Nat.eq_of_beq_eq_true hlen
    subst hl
    obtain ⟨rfl, hw⟩ := r0_of hw
    obtain ⟨h3, h4, hw⟩ := ret9_of hw
    exact aw_vret (st := []) hd (of_decide_eq_true hx) h3 h4 hw
  | _ => exact False.elim hw
theorem wp_sound {g : Glob} {mt : Nat → Mth} {M : Mth} {Post : Option Value → AH → Prop} (hmt : ∀ a, a < 200 → MOK (mt a)) (hcode : chkL mt M (m_code M) = true) : ∀ k : Nat, Sd g mt M Post (wp g mt M Post k) ∧ ∀ ls st h cl sl, ¬ wp g mt M Post k [] ls st h cl sl := by
  intro k
  induction k with
  | zero => exact ⟨fun r ls st h cl sl _ hw => hw.elim, fun _ _ _ _ _ z => z⟩
  | succ k ih => exact ⟨wpS_sound hmt hcode ih.1 ih.2, fun _ _ _ _ _ z => z⟩
/-- from a place of the table on -/
theorem aw_wp {g : Glob} {mt : Nat → Mth} {M : Mth} {Post : Option Value → AH → Prop} (hmt : ∀ a, a < 200 → MOK (mt a)) (hcode : chkL mt M (m_code M) = true) (k : Nat) {pc cl sl : Nat} {ls : List (Option Value)} {st : List Value} {h : AH} (hw : wp g mt M Post k (dropTo pc (m_code M)) ls st h cl sl) : AW g M Post cl sl pc ls st h := by
  obtain ⟨h1, h2⟩ := dropTo_chk (mt := mt) (M := M) pc (m_code M) hcode
  cases hd : dropTo pc (m_code M) with
  | nil => rw [hd] at hw; exact ((wp_sound hmt hcode k).2 _ _ _ _ _ hw).elim
  | cons e r =>
    rw [hd] at hw h1
    have := (wp_sound hmt hcode k).1 _ _ _ _ _ _ h1 hw e r rfl
    rw [h2 e r hd] at this
    exact this
end
