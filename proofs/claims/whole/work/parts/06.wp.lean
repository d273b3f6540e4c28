/-! ===== wp: the machine run over a table of instructions, as a proposition; it stops at the heads of loops ===== -/
def s1i (st : List Value) (F : Int32 → List Value → Prop) : Prop := match st with
  | .int x :: r => F x r
  | _ => False
def s2i (st : List Value) (F : Int32 → Int32 → List Value → Prop) : Prop := match st with
  | .int y :: .int x :: r => F x y r
  | _ => False
def s1f (st : List Value) (F : UInt32 → List Value → Prop) : Prop := match st with
  | .float x :: r => F x r
  | _ => False
def s2f (st : List Value) (F : UInt32 → UInt32 → List Value → Prop) : Prop := match st with
  | .float y :: .float x :: r => F x y r
  | _ => False
def s1l (st : List Value) (F : Int64 → List Value → Prop) : Prop := match st with
  | .long x :: r => F x r
  | _ => False
def s2l (st : List Value) (F : Int64 → Int64 → List Value → Prop) : Prop := match st with
  | .long y :: .long x :: r => F x y r
  | _ => False
def s1r (st : List Value) (F : Nat → List Value → Prop) : Prop := match st with
  | .ref x :: r => F x r
  | _ => False
def s1v (st : List Value) (F : Value → List Value → Prop) : Prop := match st with
  | x :: r => (match Nat.beq x.category 1 with
    | true => F x r
    | false => False)
  | _ => False
def s2v (st : List Value) (F : Value → Value → List Value → Prop) : Prop := match st with
  | x :: y :: r => (match Nat.beq x.category 1 && Nat.beq y.category 1 with
    | true => F x y r
    | false => False)
  | _ => False
def sir (st : List Value) (F : Int32 → Nat → List Value → Prop) : Prop := match st with
  | .int i :: .ref k :: r => F i k r
  | _ => False
def siir (st : List Value) (F : Int32 → Int32 → Nat → List Value → Prop) : Prop := match st with
  | .int x :: .int i :: .ref k :: r => F x i k r
  | _ => False
def srir (st : List Value) (F : Nat → Int32 → Nat → List Value → Prop) : Prop := match st with
  | .ref q :: .int i :: .ref k :: r => F q i k r
  | _ => False
def svr (st : List Value) (F : Value → Nat → List Value → Prop) : Prop := match st with
  | v :: .ref k :: r => F v k r
  | _ => False
def scp (st : List Value) (F : Int32 → Int32 → Nat → Int32 → Nat → List Value → Prop) : Prop := match st with
  | .int n :: .int dp :: .ref k1 :: .int sp :: .ref k0 :: r => F n dp k1 sp k0 r
  | _ => False
def lI (o : Option Value) (F : Int32 → Prop) : Prop := match o with
  | some (.int x) => F x
  | _ => False
def lF (o : Option Value) (F : UInt32 → Prop) : Prop := match o with
  | some (.float x) => F x
  | _ => False
def lL (o : Option Value) (F : Int64 → Prop) : Prop := match o with
  | some (.long x) => F x
  | _ => False
def lR (o : Option Value) (F : Nat → Prop) : Prop := match o with
  | some (.ref x) => F x
  | _ => False
def r1i (st : List Value) (F : Int32 → Prop) : Prop := match st with
  | [.int x] => F x
  | _ => False
def r1l (st : List Value) (F : Int64 → Prop) : Prop := match st with
  | [.long x] => F x
  | _ => False
def r1f (st : List Value) (F : UInt32 → Prop) : Prop := match st with
  | [.float x] => F x
  | _ => False
def r0 (st : List Value) (P : Prop) : Prop := match st with
  | [] => P
  | _ => False
def popR (n : Nat) (st : List Value) (F : List Value → Nat → List Value → Prop) : Prop := match popN n [] st with
  | some (As, .ref k :: r) => F As k r
  | _ => False
def popT (n : Nat) (st : List Value) (F : List Value → List Value → Prop) : Prop := match popN n [] st with
  | some (As, r) => F As r
  | _ => False
def bEl (b : Bool) (P Q : Prop) : Prop := match b with
  | true => P
  | false => Q
def bIf (b : Bool) (P : Prop) : Prop := match b with
  | true => P
  | false => False
def oV (o : Option Value) (F : Value → Prop) : Prop := match o with
  | some v => F v
  | none => False
/-- an object of class a at k -/
def oO (h : AH) (k a : Nat) (F : List Value → Prop) : Prop := match hat h k with
  | some (.inr (ci, fs)) => (match Nat.beq ci a with
    | true => F fs
    | false => False)
  | _ => False
/-- what a field takes -/
def pok (ty : FieldType) (v : Value) (P : Prop) : Prop := match ty, v with
  | .int, .int _ => P
  | .boolean, .int x => (x = 0 ∨ x = 1) ∧ P
  | .array _, .ref _ => P
  | .object _, .ref _ => P
  | _, _ => False
def swp (F : Nat → Prop) (pc : Nat) (x : Int) : Int → List Int → Prop
  | _, [] => True
  | lo, o :: os => (x = lo → F ((pc : Int) + o).toNat) ∧ swp F pc x (lo + 1) os
theorem s1i_of {st : List Value} {F : Int32 → List Value → Prop} (h : s1i st F) : ∃ x r, st = .int x :: r ∧ F x r := by
  unfold s1i at h; split at h
  · exact ⟨_, _, rfl, h⟩
  · exact h.elim
theorem s2i_of {st : List Value} {F : Int32 → Int32 → List Value → Prop} (h : s2i st F) : ∃ x y r, st = .int y :: .int x :: r ∧ F x y r := by
  unfold s2i at h; split at h
  · exact ⟨_, _, _, rfl, h⟩
  · exact h.elim
theorem s1f_of {st : List Value} {F : UInt32 → List Value → Prop} (h : s1f st F) : ∃ x r, st = .float x :: r ∧ F x r := by
  unfold s1f at h; split at h
  · exact ⟨_, _, rfl, h⟩
  · exact h.elim
theorem s2f_of {st : List Value} {F : UInt32 → UInt32 → List Value → Prop} (h : s2f st F) : ∃ x y r, st = .float y :: .float x :: r ∧ F x y r := by
  unfold s2f at h; split at h
  · exact ⟨_, _, _, rfl, h⟩
  · exact h.elim
theorem s1l_of {st : List Value} {F : Int64 → List Value → Prop} (h : s1l st F) : ∃ x r, st = .long x :: r ∧ F x r := by
  unfold s1l at h; split at h
  · exact ⟨_, _, rfl, h⟩
  · exact h.elim
theorem s2l_of {st : List Value} {F : Int64 → Int64 → List Value → Prop} (h : s2l st F) : ∃ x y r, st = .long y :: .long x :: r ∧ F x y r := by
  unfold s2l at h; split at h
  · exact ⟨_, _, _, rfl, h⟩
  · exact h.elim
theorem s1r_of {st : List Value} {F : Nat → List Value → Prop} (h : s1r st F) : ∃ x r, st = .ref x :: r ∧ F x r := by
  unfold s1r at h; split at h
  · exact ⟨_, _, rfl, h⟩
  · exact h.elim
theorem s1v_of {st : List Value} {F : Value → List Value → Prop} (h : s1v st F) : ∃ x r, st = x :: r ∧ x.category = 1 ∧ F x r := by
  unfold s1v at h; split at h
  · split at h
    · rename_i x r _ hc
      exact ⟨x, r, rfl, Nat.eq_of_beq_eq_true hc, h⟩
    · exact h.elim
  · exact h.elim
theorem s2v_of {st : List Value} {F : Value → Value → List Value → Prop} (h : s2v st F) : ∃ x y r, st = x :: y :: r ∧ x.category = 1 ∧ y.category = 1 ∧ F x y r := by
  unfold s2v at h; split at h
  · split at h
    · rename_i x y r _ hc
      rw [Bool.and_eq_true] at hc
      exact ⟨x, y, r, rfl, Nat.eq_of_beq_eq_true hc.1, Nat.eq_of_beq_eq_true hc.2, h⟩
    · exact h.elim
  · exact h.elim
theorem sir_of {st : List Value} {F : Int32 → Nat → List Value → Prop} (h : sir st F) : ∃ i k r, st = .int i :: .ref k :: r ∧ F i k r := by
  unfold sir at h; split at h
  · exact ⟨_, _, _, rfl, h⟩
  · exact h.elim
theorem siir_of {st : List Value} {F : Int32 → Int32 → Nat → List Value → Prop} (h : siir st F) : ∃ x i k r, st = .int x :: .int i :: .ref k :: r ∧ F x i k r := by
  unfold siir at h; split at h
  · exact ⟨_, _, _, _, rfl, h⟩
  · exact h.elim
theorem srir_of {st : List Value} {F : Nat → Int32 → Nat → List Value → Prop} (h : srir st F) : ∃ q i k r, st = .ref q :: .int i :: .ref k :: r ∧ F q i k r := by
  unfold srir at h; split at h
  · exact ⟨_, _, _, _, rfl, h⟩
  · exact h.elim
theorem svr_of {st : List Value} {F : Value → Nat → List Value → Prop} (h : svr st F) : ∃ v k r, st = v :: .ref k :: r ∧ F v k r := by
  unfold svr at h; split at h
  · exact ⟨_, _, _, rfl, h⟩
  · exact h.elim
theorem scp_of {st : List Value} {F : Int32 → Int32 → Nat → Int32 → Nat → List Value → Prop} (h : scp st F) : ∃ n dp k1 sp k0 r, st = .int n :: .int dp :: .ref k1 :: .int sp :: .ref k0 :: r ∧ F n dp k1 sp k0 r := by
  unfold scp at h; split at h
  · exact ⟨_, _, _, _, _, _, rfl, h⟩
  · exact h.elim
theorem lI_of {o : Option Value} {F : Int32 → Prop} (h : lI o F) : ∃ x, o = some (.int x) ∧ F x := by
  unfold lI at h; split at h
  · exact ⟨_, rfl, h⟩
  · exact h.elim
theorem lF_of {o : Option Value} {F : UInt32 → Prop} (h : lF o F) : ∃ x, o = some (.float x) ∧ F x := by
  unfold lF at h; split at h
  · exact ⟨_, rfl, h⟩
  · exact h.elim
theorem lL_of {o : Option Value} {F : Int64 → Prop} (h : lL o F) : ∃ x, o = some (.long x) ∧ F x := by
  unfold lL at h; split at h
  · exact ⟨_, rfl, h⟩
  · exact h.elim
theorem lR_of {o : Option Value} {F : Nat → Prop} (h : lR o F) : ∃ x, o = some (.ref x) ∧ F x := by
  unfold lR at h; split at h
  · exact ⟨_, rfl, h⟩
  · exact h.elim
theorem r1i_of {st : List Value} {F : Int32 → Prop} (h : r1i st F) : ∃ x, st = [.int x] ∧ F x := by
  unfold r1i at h; split at h
  · exact ⟨_, rfl, h⟩
  · exact h.elim
theorem r1l_of {st : List Value} {F : Int64 → Prop} (h : r1l st F) : ∃ x, st = [.long x] ∧ F x := by
  unfold r1l at h; split at h
  · exact ⟨_, rfl, h⟩
  · exact h.elim
theorem r1f_of {st : List Value} {F : UInt32 → Prop} (h : r1f st F) : ∃ x, st = [.float x] ∧ F x := by
  unfold r1f at h; split at h
  · exact ⟨_, rfl, h⟩
  · exact h.elim
theorem r0_of {st : List Value} {P : Prop} (h : r0 st P) : st = [] ∧ P := by
  unfold r0 at h; split at h
  · exact ⟨rfl, h⟩
  · exact h.elim
theorem popR_of {n : Nat} {st : List Value} {F : List Value → Nat → List Value → Prop} (h : popR n st F) : ∃ As k r, popN n [] st = some (As, .ref k :: r) ∧ F As k r := by
  unfold popR at h; split at h
  · rename_i he
    exact ⟨_, _, _, he, h⟩
  · exact h.elim
theorem popT_of {n : Nat} {st : List Value} {F : List Value → List Value → Prop} (h : popT n st F) : ∃ As r, popN n [] st = some (As, r) ∧ F As r := by
  unfold popT at h; split at h
  · rename_i he
    exact ⟨_, _, he, h⟩
  · exact h.elim
theorem bEl_of {b : Bool} {P Q : Prop} (h : bEl b P Q) : (b = true ∧ P) ∨ (b = false ∧ Q) := by
  cases b with
  | true => exact Or.inl ⟨rfl, h⟩
  | false => exact Or.inr ⟨rfl, h⟩
theorem bIf_of {b : Bool} {P : Prop} (h : bIf b P) : b = true ∧ P := by
  cases b with
  | true => exact ⟨rfl, h⟩
  | false => exact h.elim
theorem oV_of {o : Option Value} {F : Value → Prop} (h : oV o F) : ∃ v, o = some v ∧ F v := by
  cases o with
  | none => exact h.elim
  | some v => exact ⟨v, rfl, h⟩
theorem oO_of {h : AH} {k a : Nat} {F : List Value → Prop} (hh : oO h k a F) : ∃ fs, hat h k = some (.inr (a, fs)) ∧ F fs := by
  unfold oO at hh; split at hh
  · split at hh
    · rename_i ci fs he _ hc
      rw [Nat.eq_of_beq_eq_true hc] at he
      exact ⟨fs, he, hh⟩
    · exact hh.elim
  · exact hh.elim
theorem pok_of {ty : FieldType} {v : Value} {P : Prop} (h : pok ty v P) (g : Glob) : (∀ al, narrow ty (trV g al v) = trV g al v) ∧ (∀ al, fits ty (trV g al v) = true) ∧ P := by
  unfold pok at h; split at h
  · exact ⟨fun _ => rfl, fun _ => rfl, h⟩
  · obtain ⟨h1 | h1, h2⟩ := h
    · subst h1; exact ⟨fun _ => rfl, fun _ => rfl, h2⟩
    · subst h1; exact ⟨fun _ => rfl, fun _ => rfl, h2⟩
  · exact ⟨fun _ => rfl, fun _ => rfl, h⟩
  · exact ⟨fun _ => rfl, fun _ => rfl, h⟩
  · exact h.elim
theorem swp_get {F : Nat → Prop} {pc : Nat} {x : Int} : ∀ (l : List Int) (lo : Int), swp F pc x lo l → lo ≤ x → x < lo + l.length → ∃ off, l[(x - lo).toNat]? = some off ∧ F ((pc : Int) + off).toNat := by
  intro l
  induction l with
  | nil => intro lo _ h1 h2; simp at h2; omega
  | cons o os ih =>
    intro lo h h1 h2
    by_cases hx : x = lo
    · subst hx
      refine ⟨o, ?_, h.1 rfl⟩
      rw [show (x - x).toNat = 0 by omega]
      rfl
    · obtain ⟨off, z1, z2⟩ := ih (lo + 1) h.2 (by omega) (by rw [List.length_cons] at h2; omega)
      refine ⟨off, ?_, z2⟩
      rw [show (x - lo).toNat = (x - (lo + 1)).toNat + 1 by omega]
      exact z1
abbrev FT : Type := List En → List (Option Value) → List Value → AH → Nat → Nat → Prop
def nx (g : Glob) (M : Mth) (Post : Option Value → AH → Prop) (F : FT) (r : List En) (ls : List (Option Value)) (st : List Value) (h : AH) (cl sl : Nat) : Prop := match r with
  | [] => False
  | e2 :: _ => match (m_stops M).elem e2.1 with
    | true => AW g M Post cl sl e2.1 ls st h
    | false => F r ls st h cl sl
def jp (g : Glob) (M : Mth) (Post : Option Value → AH → Prop) (F : FT) (t : Nat) (ls : List (Option Value)) (st : List Value) (h : AH) (cl sl : Nat) : Prop := match (m_stops M).elem t with
  | true => AW g M Post cl sl t ls st h
  | false => F (dropTo t (m_code M)) ls st h cl sl
def ico (c : Jvm.ClassFile.Cond) (x y : Int32) (P Q : Prop) : Prop := match c with
  | .eq => (x = y → P) ∧ (¬ x = y → Q)
  | .ne => (¬ x = y → P) ∧ (x = y → Q)
  | .lt => (x < y → P) ∧ (¬ x < y → Q)
  | .ge => (y ≤ x → P) ∧ (¬ y ≤ x → Q)
  | .gt => (y < x → P) ∧ (¬ y < x → Q)
  | .le => (x ≤ y → P) ∧ (¬ x ≤ y → Q)
def ret9 (M : Mth) (cl sl : Nat) (P : Prop) : Prop := bIf (Nat.ble cl (m_mc M) && Nat.ble sl (m_ms M)) P
def zok (ty : Option FieldType) (v : Int32) (P : Prop) : Prop := match ty with
  | some .int => P
  | some t => narrow t (.int v) = .int v ∧ P
  | none => False
/-- room and places for a call -/
def cok (M M' : Mth) (cl sl : Nat) (ls : List (Option Value)) (st : List Value) (h : AH) (P : Prop) : Prop :=
  bIf (Nat.ble (cl + m_mc M') (m_mc M) && Nat.ble (sl + m_ms M') (m_ms M) && Nat.ble ((st.map fun v => v.category).sum) 8) (match Nat.beq (m_mc M') 0 with
    | true => P
    | false => (h.length ≤ 1000 ∧ okS h.length st = true ∧ okL h.length ls = true) ∧ P)
def mok (M : Mth) (cl sl : Nat) (ls : List (Option Value)) (st : List Value) (h : AH) (dc ds : Nat) (P : Prop) : Prop :=
  bIf (!Nat.beq (m_mc M) 0 && Nat.ble (cl + dc) (m_mc M) && Nat.ble (sl + ds) (m_ms M)) ((okH h = true ∧ okS h.length st = true ∧ okL h.length ls = true) ∧ P)
def rcv (M' : Mth) (h : AH) (b : Nat) (P : Prop) : Prop := match Nat.blt b 1000 with
  | true => (match h[b]? with
    | some (.inr (a, _)) => bIf (Nat.blt a 7 && decide (ctR a = (m_y M').cls)) P
    | _ => False)
  | false => bIf ((Nat.beq b 1000 || Nat.beq b 1001 || Nat.beq b 1002) && decide ((m_y M').cls = "java/lang/String")) P
def wpS (g : Glob) (mt : Nat → Mth) (M : Mth) (Post : Option Value → AH → Prop) (F : FT) : FT := fun cd ls st h cl sl => match cd with
  | [] => False
  | (pc, _, i, a, b, _, v) :: r => match i with
      | .iconst _ => nx g M Post F r ls (.int v :: st) h cl sl
      | .bipush _ => nx g M Post F r ls (.int v :: st) h cl sl
      | .sipush _ => nx g M Post F r ls (.int v :: st) h cl sl
      | .ldc _ => match b with
        | 0 => nx g M Post F r ls (.int v :: st) h cl sl
        | 1 => nx g M Post F r ls (.float (UInt32.ofNat a) :: st) h cl sl
        | _ => nx g M Post F r ls (.ref a :: st) h cl sl
      | .ldc_w _ => nx g M Post F r ls (.int v :: st) h cl sl
      | .ldc2_w _ => nx g M Post F r ls (.long (Int64.ofNat a) :: st) h cl sl
      | .lconst _ => nx g M Post F r ls (.long (Int64.ofNat a) :: st) h cl sl
      | .fconst _ => nx g M Post F r ls (.float FP.fconst0 :: st) h cl sl
      | .iload_n j => lI (lget ls j) (fun x => nx g M Post F r ls (.int x :: st) h cl sl)
      | .iload j => lI (lget ls j) (fun x => nx g M Post F r ls (.int x :: st) h cl sl)
      | .fload_n j => lF (lget ls j) (fun x => nx g M Post F r ls (.float x :: st) h cl sl)
      | .fload j => lF (lget ls j) (fun x => nx g M Post F r ls (.float x :: st) h cl sl)
      | .lload_n j => lL (lget ls j) (fun x => nx g M Post F r ls (.long x :: st) h cl sl)
      | .lload j => lL (lget ls j) (fun x => nx g M Post F r ls (.long x :: st) h cl sl)
      | .aload_n j => lR (lget ls j) (fun x => nx g M Post F r ls (.ref x :: st) h cl sl)
      | .aload j => lR (lget ls j) (fun x => nx g M Post F r ls (.ref x :: st) h cl sl)
      | .istore_n j => s1i st (fun x st => bIf (Nat.blt j (m_nL M) && !c2at ls j) (nx g M Post F r (ls.set j (some (.int x))) (st) h cl sl))
      | .istore j => s1i st (fun x st => bIf (Nat.blt j (m_nL M) && !c2at ls j) (nx g M Post F r (ls.set j (some (.int x))) (st) h cl sl))
      | .fstore_n j => s1f st (fun x st => bIf (Nat.blt j (m_nL M) && !c2at ls j) (nx g M Post F r (ls.set j (some (.float x))) (st) h cl sl))
      | .fstore j => s1f st (fun x st => bIf (Nat.blt j (m_nL M) && !c2at ls j) (nx g M Post F r (ls.set j (some (.float x))) (st) h cl sl))
      | .astore_n j => s1r st (fun x st => bIf (Nat.blt j (m_nL M) && !c2at ls j) (nx g M Post F r (ls.set j (some (.ref x))) (st) h cl sl))
      | .astore j => s1r st (fun x st => bIf (Nat.blt j (m_nL M) && !c2at ls j) (nx g M Post F r (ls.set j (some (.ref x))) (st) h cl sl))
      | .lstore_n j => s1l st (fun x st => bIf (Nat.blt (j + 1) (m_nL M) && !c2at ls j) (nx g M Post F r ((ls.set j (some (.long x))).set (j + 1) none) (st) h cl sl))
      | .lstore j => s1l st (fun x st => bIf (Nat.blt (j + 1) (m_nL M) && !c2at ls j) (nx g M Post F r ((ls.set j (some (.long x))).set (j + 1) none) (st) h cl sl))
      | .iinc j _ => lI (lget ls j) (fun x => bIf (Nat.blt j (m_nL M) && !c2at ls j) (nx g M Post F r (ls.set j (some (.int (x + v)))) (st) h cl sl))
      | .iadd => s2i st (fun x y st => nx g M Post F r ls (.int (x + y) :: st) h cl sl)
      | .isub => s2i st (fun x y st => nx g M Post F r ls (.int (x - y) :: st) h cl sl)
      | .imul => s2i st (fun x y st => nx g M Post F r ls (.int (x * y) :: st) h cl sl)
      | .iand => s2i st (fun x y st => nx g M Post F r ls (.int (x &&& y) :: st) h cl sl)
      | .ior => s2i st (fun x y st => nx g M Post F r ls (.int (x ||| y) :: st) h cl sl)
      | .ixor => s2i st (fun x y st => nx g M Post F r ls (.int (x ^^^ y) :: st) h cl sl)
      | .ishl => s2i st (fun x y st => nx g M Post F r ls (.int (x <<< (y &&& 31)) :: st) h cl sl)
      | .ishr => s2i st (fun x y st => nx g M Post F r ls (.int (x >>> (y &&& 31)) :: st) h cl sl)
      | .iushr => s2i st (fun x y st => nx g M Post F r ls (.int ((x.toUInt32 >>> (y.toUInt32 &&& Int32.toUInt32 31)).toInt32) :: st) h cl sl)
      | .ineg => s1i st (fun x st => nx g M Post F r ls (.int (-x) :: st) h cl sl)
      | .i2l => s1i st (fun x st => nx g M Post F r ls (.long x.toInt64 :: st) h cl sl)
      | .i2c => s1i st (fun x st => nx g M Post F r ls (.int (x.toUInt32 % 65536).toInt32 :: st) h cl sl)
      | .i2f => s1i st (fun x st => nx g M Post F r ls (.float (FP.i2f x) :: st) h cl sl)
      | .f2i => s1f st (fun x st => nx g M Post F r ls (.int (FP.f2i x) :: st) h cl sl)
      | .ladd => s2l st (fun x y st => nx g M Post F r ls (.long (x + y) :: st) h cl sl)
      | .lsub => s2l st (fun x y st => nx g M Post F r ls (.long (x - y) :: st) h cl sl)
      | .lmul => s2l st (fun x y st => nx g M Post F r ls (.long (x * y) :: st) h cl sl)
      | .lcmp => s2l st (fun x y st => nx g M Post F r ls (.int (lg_cmp x y) :: st) h cl sl)
      | .fadd => s2f st (fun x y st => vf_n32 (FP.fadd x y) ∧ nx g M Post F r ls (.float (FP.fadd x y) :: st) h cl sl)
      | .fmul => s2f st (fun x y st => vf_n32 (FP.fmul x y) ∧ nx g M Post F r ls (.float (FP.fmul x y) :: st) h cl sl)
      | .fdiv => s2f st (fun x y st => vf_n32 (FP.fdiv x y) ∧ nx g M Post F r ls (.float (FP.fdiv x y) :: st) h cl sl)
      | .fcmp op => s2f st (fun x y st => nx g M Post F r ls (.int (Op.cmpValue (FP.fcmp x y) op) :: st) h cl sl)
      | .dup => s1v st (fun x st => nx g M Post F r ls (x :: x :: st) h cl sl)
      | .pop => s1v st (fun _ st => nx g M Post F r ls (st) h cl sl)
      | .dup2 => s2v st (fun x y st => nx g M Post F r ls (x :: y :: x :: y :: st) h cl sl)
      | .if_icmp cnd _ => s2i st (fun x y st => ico cnd x y (jp g M Post F a ls (st) h cl sl) (nx g M Post F r ls (st) h cl sl))
      | .ifCond cnd _ => s1i st (fun x st => ico cnd x 0 (jp g M Post F a ls (st) h cl sl) (nx g M Post F r ls (st) h cl sl))
      | .goto _ => jp g M Post F a ls (st) h cl sl
      | .tableswitch _ lo hi offs => s1i st (fun x st => (x.toInt < lo ∨ hi < x.toInt → jp g M Post F a ls (st) h cl sl) ∧ swp (fun t => jp g M Post F t ls (st) h cl sl) pc x.toInt lo offs.toList)
      | .getfield _ => s1r st (fun k st => bEl (Nat.blt a 7) (oO h k a (fun fs => oV (fs[b]?) (fun w => nx g M Post F r ls (w :: st) h cl sl))) (oV (roF k b) (fun w => nx g M Post F r ls (w :: st) h cl sl)))
      | .putfield _ => svr st (fun w k st => oO h k a (fun fs => bIf (Nat.blt b fs.length) (pok (cty a b) w (nx g M Post F r ls (st) (h.set k (.inr (a, fs.set b w))) cl sl))))
      | .iaload => sir st (fun i k st => bEl (Nat.blt k 1000) (∃ n f, hat h k = some (.inl (0, n, .inl f)) ∧ vp_in i n ∧ nx g M Post F r ls (.int (f i.toNatClampNeg) :: st) h cl sl) (∃ n f, roI g k = some (n, f) ∧ vp_in i n ∧ nx g M Post F r ls (.int (f i.toNatClampNeg) :: st) h cl sl))
      | .baload => sir st (fun i k st => bEl (Nat.blt k 1000) (∃ n f, hat h k = some (.inl (1, n, .inl f)) ∧ vp_in i n ∧ nx g M Post F r ls (.int (f i.toNatClampNeg) :: st) h cl sl) (∃ n f, roB k = some (n, f) ∧ vp_in i n ∧ nx g M Post F r ls (.int (f i.toNatClampNeg) :: st) h cl sl))
      | .iastore => siir st (fun x i k st => ∃ n f, hat h k = some (.inl (0, n, .inl f)) ∧ vp_in i n ∧ nx g M Post F r ls (st) (h.set k (.inl (0, n, .inl (upd f i.toNatClampNeg x)))) cl sl)
      | .bastore => siir st (fun x i k st => ∃ n f, hat h k = some (.inl (1, n, .inl f)) ∧ vp_in i n ∧ nx g M Post F r ls (st) (h.set k (.inl (1, n, .inl (upd f i.toNatClampNeg (vp_nar .boolean x))))) cl sl)
      | .aaload => sir st (fun i k st => ∃ t n f q, (t = 2 ∨ t = 3) ∧ hat h k = some (.inl (t, n, .inr (.inr (.inr (.inr f))))) ∧ vp_in i n ∧ f i.toNatClampNeg = some q ∧ nx g M Post F r ls (.ref q :: st) h cl sl)
      | .aastore => srir st (fun q i k st => ∃ n f fs, hat h k = some (.inl (2, n, .inr (.inr (.inr (.inr f))))) ∧ hat h q = some (.inr (3, fs)) ∧ vp_in i n ∧ nx g M Post F r ls (st) (h.set k (.inl (2, n, .inr (.inr (.inr (.inr (va_up f i.toNatClampNeg (some q)))))))) cl sl)
      | .arraylength => s1r st (fun k st => bIf (Nat.ble 1000 k) (match roI g k with
        | some (n, _) => nx g M Post F r ls (.int (Int32.ofNat n) :: st) h cl sl
        | none => match roB k with
          | some (n, _) => nx g M Post F r ls (.int (Int32.ofNat n) :: st) h cl sl
          | none => False))
      | .getstatic _ => match a with
        | 0 => nx g M Post F r ls (.ref 1003 :: st) h cl sl
        | 1 => nx g M Post F r ls (.ref 1004 :: st) h cl sl
        | 2 => nx g M Post F r ls (.int 1 :: st) h cl sl
        | 3 => nx g M Post F r ls (.null :: st) h cl sl ∧ nx g M Post F r ls (.ref 1020 :: st) h cl sl
        | _ => False
      | .invokevirtual _ => popR (m_np (mt a)) st (fun As k st => rcv (mt a) h k (cok M (mt a) cl sl ls st h (AC g (mt a) (.ref k :: As) h (fun rv h' => nx g M Post F r ls (rv.toList ++ st) h' (cl + m_mc (mt a)) (sl + m_ms (mt a))))))
      | .invokespecial _ => match b with
        | 2 => s1r st (fun _ st => bIf (Nat.ble ((st.map fun v => v.category).sum) 8) (nx g M Post F r ls (st) h cl sl))
        | _ => popR (m_np (mt a)) st (fun As k st => cok M (mt a) cl sl ls st h (AC g (mt a) (.ref k :: As) h (fun rv h' => nx g M Post F r ls (rv.toList ++ st) h' (cl + m_mc (mt a)) (sl + m_ms (mt a)))))
      | .invokestatic _ => match b with
        | 1 => scp st (fun n dp k1 sp k0 st => bIf (Nat.ble ((st.map fun v => v.category).sum) 8) (∃ n0 f0 n1 f1, hat h k0 = some (.inl (0, n0, .inl f0)) ∧ hat h k1 = some (.inl (0, n1, .inl f1)) ∧ (¬ sp < 0 ∧ ¬ dp < 0 ∧ ¬ n < 0 ∧ sp.toNatClampNeg + n.toNatClampNeg ≤ n0 ∧ dp.toNatClampNeg + n.toNatClampNeg ≤ n1) ∧ nx g M Post F r ls (st) (h.set k1 (.inl (0, n1, .inl (va_cpy f0 f1 sp.toNatClampNeg dp.toNatClampNeg n.toNatClampNeg)))) cl sl))
        | 2 => s1i st (fun x st => bIf (Nat.ble cl (m_mc M) && Nat.ble sl (m_ms M) && Nat.ble ((st.map fun v => v.category).sum) 8) (nx g M Post F r ls (.int (if 0 ≤ x then x else 0 - x) :: st) h cl sl))
        | 3 => s2i st (fun x y st => bIf (Nat.ble cl (m_mc M) && Nat.ble sl (m_ms M) && Nat.ble ((st.map fun v => v.category).sum) 8) (nx g M Post F r ls (.int (if y < x then y else x) :: st) h cl sl))
        | 9 => False
        | _ => popT (m_np (mt a)) st (fun As st => cok M (mt a) cl sl ls st h (AC g (mt a) (As) h (fun rv h' => nx g M Post F r ls (rv.toList ++ st) h' (cl + m_mc (mt a)) (sl + m_ms (mt a)))))
      | .new _ => mok M cl sl ls st h 1 (ctN a) (nx g M Post F r ls (.ref h.length :: st) (h ++ [.inr (a, dfl a)]) (cl + 1) (sl + ctN a))
      | .newarray _ => s1i st (fun n st => mok M cl sl ls st h 1 n.toNatClampNeg ((¬ n < 0 ∧ n.toNatClampNeg ≤ 1000) ∧ nx g M Post F r ls (.ref h.length :: st) (h ++ [.inl (a, n.toNatClampNeg, .inl (fun _ => 0))]) (cl + 1) (sl + n.toNatClampNeg)))
      | .anewarray _ => s1i st (fun n st => mok M cl sl ls st h 1 n.toNatClampNeg ((¬ n < 0 ∧ n.toNatClampNeg ≤ 1000) ∧ nx g M Post F r ls (.ref h.length :: st) (h ++ [.inl (2, n.toNatClampNeg, .inr (.inr (.inr (.inr (fun _ => none)))))]) (cl + 1) (sl + n.toNatClampNeg)))
      | .multianewarray _ _ => s2i st (fun n k st => mok M cl sl ls st h (1 + n.toNatClampNeg) (n.toNatClampNeg + n.toNatClampNeg * k.toNatClampNeg) ((¬ n < 0 ∧ ¬ k < 0 ∧ n.toNatClampNeg ≤ 50 ∧ k.toNatClampNeg ≤ 50) ∧ nx g M Post F r ls (.ref h.length :: st) (h ++ (.inl (3, n.toNatClampNeg, .inr (.inr (.inr (.inr (fun i => if i < n.toNatClampNeg then some (h.length + 1 + i) else none))))) :: List.replicate n.toNatClampNeg (.inl (0, k.toNatClampNeg, .inl (fun _ => 0))))) (cl + 1 + n.toNatClampNeg) (sl + n.toNatClampNeg + n.toNatClampNeg * k.toNatClampNeg)))
      | .ireturn => r1i st (fun x => zok (m_ret M) x (ret9 M cl sl (Post (some (.int x)) h)))
      | .lreturn => r1l st (fun x => ret9 M cl sl (Post (some (.long x)) h))
      | .freturn => r1f st (fun x => ret9 M cl sl (Post (some (.float x)) h))
      | .return_ => r0 st (ret9 M cl sl (Post none h))
      | _ => False
def wp (g : Glob) (mt : Nat → Mth) (M : Mth) (Post : Option Value → AH → Prop) : Nat → FT
  | 0 => fun _ _ _ _ _ _ => False
  | k + 1 => wpS g mt M Post (wp g mt M Post k)
