/-! ===== what is known of the start ===== -/
theorem tbl_g {w : Cond} (h : w ∈ lw_g) : w ∈ lw_tbl := (List.mem_filter.mp h).1
theorem q_i0 : Cond.instantiable RX0 3 ∈ lw_tbl := by decide +kernel
theorem q_i1 : Cond.instantiable RX1 11 ∈ lw_tbl := by decide +kernel
theorem q_i2 : Cond.instantiable RX2 7 ∈ lw_tbl := by decide +kernel
theorem q_i3 : Cond.instantiable RX3 6 ∈ lw_tbl := by decide +kernel
theorem q_i4 : Cond.instantiable RX4 3 ∈ lw_tbl := by decide +kernel
theorem q_i5 : Cond.instantiable RX5 8 ∈ lw_tbl := by decide +kernel
theorem q_i6 : Cond.instantiable RX6 23 ∈ lw_tbl := by decide +kernel
theorem q_ov : Cond.arrayOver (.object "SceneShots$Scene") ∈ lw_tbl := by decide +kernel
theorem q_oa : Cond.arrayOver (.array .int) ∈ lw_tbl := by decide +kernel
theorem q_l0 : Cond.laysStatic "SceneShots" "LOWEST" "[I" ∈ lw_tbl := by decide +kernel
theorem q_l1 : Cond.laysStatic "SceneShots" "HIGHEST" "[I" ∈ lw_tbl := by decide +kernel
theorem q_l2 : Cond.laysStatic "java/lang/String" "COMPACT_STRINGS" "Z" ∈ lw_tbl := by decide +kernel
theorem q_l3 : Cond.laysStatic "jdk/internal/util/Preconditions" "SIOOBE_FORMATTER" "Ljava/util/function/BiFunction;" ∈ lw_tbl := by decide +kernel
theorem q_n0 : Cond.initialized "SceneShots" ∈ lw_tbl := by decide +kernel
theorem q_n2 : Cond.initialized "java/lang/String" ∈ lw_tbl := by decide +kernel
theorem q_n3 : Cond.initialized "jdk/internal/util/Preconditions" ∈ lw_tbl := by decide +kernel
theorem q_s0 : Cond.stringRef "SceneShots$Reader" 47 "players" ∈ lw_tbl := by decide +kernel
theorem q_s1 : Cond.stringRef "SceneShots$Reader" 56 "lines" ∈ lw_tbl := by decide +kernel
theorem q_s2 : Cond.stringRef "SceneShots$Reader" 61 "shot" ∈ lw_tbl := by decide +kernel
theorem arr_of {args : Array Value} {s : State} {ty : FieldType} (h : (Cond.arrayClass ty).before args s = true) : ∃ cA : ClassId, ArrOfT s cA ty ∧ s.vm.findClass ("[" ++ ty.toString) = some cA := by
  obtain ⟨cA, kA, comp, h1, h2, h3⟩ := Cond.arrayClass_spec h
  exact ⟨cA, fun n z => ⟨fun k h => (by cases h), kA, h2, comp, h3⟩, h1⟩
theorem arr_ob {args : Array Value} {s : State} {C : String} (h : (Cond.arrayOver (.object C)).before args s = true) : ∃ cA : ClassId, ArrOfT s cA (.object C) ∧ va_RA s cA (.object C) := by
  obtain ⟨comp, cA, kA, h1, -, h3, h4, h5⟩ := Cond.arrayOver_spec h
  exact ⟨cA, fun n z => ⟨fun k h => (by cases h), kA, h3, comp, h4⟩, kA, comp, h3, h4, h1, h5⟩
theorem arr_ar {args : Array Value} {s : State} {t : FieldType} (h : (Cond.arrayOver (.array t)).before args s = true) : ∃ cA : ClassId, ArrOfT s cA (.array t) ∧ s.vm.findClass ("[" ++ (FieldType.array t).toString) = some cA := by
  obtain ⟨comp, cA, kA, h1, -, h3, h4, h5⟩ := arrayOverA_spec h
  exact ⟨cA, fun n z => ⟨fun k h => (by cases h), kA, h3, comp, h4⟩, h5⟩
/-- a String constant's text -/
theorem str_of {args : Array Value} {s : State} {tm : Term} {N : Nat} {f : Nat → Value} {A : Nat → Prop} (hN : N < 2 ^ 31) (hex : (Cond.exactly tm "java/lang/String").before args s = true) (hco : (Cond.eq (.field tm "java/lang/String" "coder" "B") (.int 0)).before args s = true) (har : (Cond.arrayOf (.field tm "java/lang/String" "value" "[B") .byte).before args s = true) (hle : (Cond.eq (.length (.field tm "java/lang/String" "value" "[B")) (.int (Int32.ofNat N))).before args s = true) (hel : ∀ j : Nat, j < N → (Term.elem (.field tm "java/lang/String" "value" "[B") (.int (Int32.ofNat j))).eval args s none [] s = some (f j)) (hA : ∀ a : Nat, a < s.heap.size → ¬ A a) : ∃ a v : Nat, tm.eval args s none [] s = some (.ref a) ∧ va_O "java/lang/String" a A s s.heap ∧ va_OF "java/lang/String" "value" "[B" (.ref v) a A s s.heap ∧ va_OF "java/lang/String" "coder" "B" (.int 0) a A s s.heap ∧ va_T .byte v N f A s s.heap := by
  obtain ⟨a, c, cell, k, q1, q2, q3, q4, q5, q6, -⟩ := Cond.exactly_spec hex
  obtain ⟨v, hv, hT⟩ := va_Tof hN har (va_eqt hle) hel hA
  exact ⟨a, v, q1, va_Oof hex q1 hA, vk_OFof q1 hv hA, vk_OFof q1 (va_eqt hco) hA, hT⟩
section ST
variable {s : State} {b : Nat}
theorem st_low (hs : ∀ c ∈ flatC (Jvm.Cond.and given_1 narrow_1), c.before #[Value.ref b] s = true) {A : Nat → Prop} (hA : ∀ a : Nat, a < s.heap.size → ¬ A a) : ∃ t : Nat, (Term.static "SceneShots" "LOWEST" "[I").eval #[Value.ref b] s none [] s = some (.ref t) ∧ va_T .int t 7 (fun j => .int (([0, 0, 0, 1, 0, 0, 1] : List Int32).getD j 0)) A s s.heap := by
  refine va_Tof (by decide) (hs (.arrayOf (.static "SceneShots" "LOWEST" "[I") .int) (by decide +kernel)) (va_eqt (hs (.eq (.length (.static "SceneShots" "LOWEST" "[I")) (.int (Int32.ofNat 7))) (by decide +kernel))) (fun j hj => by
    rcases (show j = 0 ∨ j = 1 ∨ j = 2 ∨ j = 3 ∨ j = 4 ∨ j = 5 ∨ j = 6 by omega) with rfl | rfl | rfl | rfl | rfl | rfl | rfl
    · exact va_eqt (z := 0) (hs (.eq (.elem (.static "SceneShots" "LOWEST" "[I") (.int (Int32.ofNat 0))) (.int 0)) (by decide +kernel))
    · exact va_eqt (z := 0) (hs (.eq (.elem (.static "SceneShots" "LOWEST" "[I") (.int (Int32.ofNat 1))) (.int 0)) (by decide +kernel))
    · exact va_eqt (z := 0) (hs (.eq (.elem (.static "SceneShots" "LOWEST" "[I") (.int (Int32.ofNat 2))) (.int 0)) (by decide +kernel))
    · exact va_eqt (z := 1) (hs (.eq (.elem (.static "SceneShots" "LOWEST" "[I") (.int (Int32.ofNat 3))) (.int 1)) (by decide +kernel))
    · exact va_eqt (z := 0) (hs (.eq (.elem (.static "SceneShots" "LOWEST" "[I") (.int (Int32.ofNat 4))) (.int 0)) (by decide +kernel))
    · exact va_eqt (z := 0) (hs (.eq (.elem (.static "SceneShots" "LOWEST" "[I") (.int (Int32.ofNat 5))) (.int 0)) (by decide +kernel))
    · exact va_eqt (z := 1) (hs (.eq (.elem (.static "SceneShots" "LOWEST" "[I") (.int (Int32.ofNat 6))) (.int 1)) (by decide +kernel))) hA
theorem st_high (hs : ∀ c ∈ flatC (Jvm.Cond.and given_1 narrow_1), c.before #[Value.ref b] s = true) {A : Nat → Prop} (hA : ∀ a : Nat, a < s.heap.size → ¬ A a) : ∃ t : Nat, (Term.static "SceneShots" "HIGHEST" "[I").eval #[Value.ref b] s none [] s = some (.ref t) ∧ va_T .int t 7 (fun j => .int (([9, 9, 2, 5, 7, 7, 9] : List Int32).getD j 0)) A s s.heap := by
  refine va_Tof (by decide) (hs (.arrayOf (.static "SceneShots" "HIGHEST" "[I") .int) (by decide +kernel)) (va_eqt (hs (.eq (.length (.static "SceneShots" "HIGHEST" "[I")) (.int (Int32.ofNat 7))) (by decide +kernel))) (fun j hj => by
    rcases (show j = 0 ∨ j = 1 ∨ j = 2 ∨ j = 3 ∨ j = 4 ∨ j = 5 ∨ j = 6 by omega) with rfl | rfl | rfl | rfl | rfl | rfl | rfl
    · exact va_eqt (z := 9) (hs (.eq (.elem (.static "SceneShots" "HIGHEST" "[I") (.int (Int32.ofNat 0))) (.int 9)) (by decide +kernel))
    · exact va_eqt (z := 9) (hs (.eq (.elem (.static "SceneShots" "HIGHEST" "[I") (.int (Int32.ofNat 1))) (.int 9)) (by decide +kernel))
    · exact va_eqt (z := 2) (hs (.eq (.elem (.static "SceneShots" "HIGHEST" "[I") (.int (Int32.ofNat 2))) (.int 2)) (by decide +kernel))
    · exact va_eqt (z := 5) (hs (.eq (.elem (.static "SceneShots" "HIGHEST" "[I") (.int (Int32.ofNat 3))) (.int 5)) (by decide +kernel))
    · exact va_eqt (z := 7) (hs (.eq (.elem (.static "SceneShots" "HIGHEST" "[I") (.int (Int32.ofNat 4))) (.int 7)) (by decide +kernel))
    · exact va_eqt (z := 7) (hs (.eq (.elem (.static "SceneShots" "HIGHEST" "[I") (.int (Int32.ofNat 5))) (.int 7)) (by decide +kernel))
    · exact va_eqt (z := 9) (hs (.eq (.elem (.static "SceneShots" "HIGHEST" "[I") (.int (Int32.ofNat 6))) (.int 9)) (by decide +kernel))) hA
theorem st_s0 (hs : ∀ c ∈ flatC (Jvm.Cond.and given_1 narrow_1), c.before #[Value.ref b] s = true) {A : Nat → Prop} (hA : ∀ a : Nat, a < s.heap.size → ¬ A a) : ∃ a v : Nat, (Term.string "SceneShots$Reader" 47).eval #[Value.ref b] s none [] s = some (.ref a) ∧ va_O "java/lang/String" a A s s.heap ∧ va_OF "java/lang/String" "value" "[B" (.ref v) a A s s.heap ∧ va_OF "java/lang/String" "coder" "B" (.int 0) a A s s.heap ∧ va_T .byte v 7 (fun j => .int (([112, 108, 97, 121, 101, 114, 115] : List Int32).getD j 0)) A s s.heap := by
  refine str_of (by decide) (hs (.exactly (.string "SceneShots$Reader" 47) "java/lang/String") (by decide +kernel)) (hs (.eq (.field (.string "SceneShots$Reader" 47) "java/lang/String" "coder" "B") (.int 0)) (by decide +kernel)) (hs (.arrayOf (.field (.string "SceneShots$Reader" 47) "java/lang/String" "value" "[B") .byte) (by decide +kernel)) (hs (.eq (.length (.field (.string "SceneShots$Reader" 47) "java/lang/String" "value" "[B")) (.int (Int32.ofNat 7))) (by decide +kernel)) (fun j hj => by
    rcases (show j = 0 ∨ j = 1 ∨ j = 2 ∨ j = 3 ∨ j = 4 ∨ j = 5 ∨ j = 6 by omega) with rfl | rfl | rfl | rfl | rfl | rfl | rfl
    · exact va_eqt (z := 112) (hs (.eq (.elem (.field (.string "SceneShots$Reader" 47) "java/lang/String" "value" "[B") (.int (Int32.ofNat 0))) (.int 112)) (by decide +kernel))
    · exact va_eqt (z := 108) (hs (.eq (.elem (.field (.string "SceneShots$Reader" 47) "java/lang/String" "value" "[B") (.int (Int32.ofNat 1))) (.int 108)) (by decide +kernel))
    · exact va_eqt (z := 97) (hs (.eq (.elem (.field (.string "SceneShots$Reader" 47) "java/lang/String" "value" "[B") (.int (Int32.ofNat 2))) (.int 97)) (by decide +kernel))
    · exact va_eqt (z := 121) (hs (.eq (.elem (.field (.string "SceneShots$Reader" 47) "java/lang/String" "value" "[B") (.int (Int32.ofNat 3))) (.int 121)) (by decide +kernel))
    · exact va_eqt (z := 101) (hs (.eq (.elem (.field (.string "SceneShots$Reader" 47) "java/lang/String" "value" "[B") (.int (Int32.ofNat 4))) (.int 101)) (by decide +kernel))
    · exact va_eqt (z := 114) (hs (.eq (.elem (.field (.string "SceneShots$Reader" 47) "java/lang/String" "value" "[B") (.int (Int32.ofNat 5))) (.int 114)) (by decide +kernel))
    · exact va_eqt (z := 115) (hs (.eq (.elem (.field (.string "SceneShots$Reader" 47) "java/lang/String" "value" "[B") (.int (Int32.ofNat 6))) (.int 115)) (by decide +kernel))) hA
theorem st_s1 (hs : ∀ c ∈ flatC (Jvm.Cond.and given_1 narrow_1), c.before #[Value.ref b] s = true) {A : Nat → Prop} (hA : ∀ a : Nat, a < s.heap.size → ¬ A a) : ∃ a v : Nat, (Term.string "SceneShots$Reader" 56).eval #[Value.ref b] s none [] s = some (.ref a) ∧ va_O "java/lang/String" a A s s.heap ∧ va_OF "java/lang/String" "value" "[B" (.ref v) a A s s.heap ∧ va_OF "java/lang/String" "coder" "B" (.int 0) a A s s.heap ∧ va_T .byte v 5 (fun j => .int (([108, 105, 110, 101, 115] : List Int32).getD j 0)) A s s.heap := by
  refine str_of (by decide) (hs (.exactly (.string "SceneShots$Reader" 56) "java/lang/String") (by decide +kernel)) (hs (.eq (.field (.string "SceneShots$Reader" 56) "java/lang/String" "coder" "B") (.int 0)) (by decide +kernel)) (hs (.arrayOf (.field (.string "SceneShots$Reader" 56) "java/lang/String" "value" "[B") .byte) (by decide +kernel)) (hs (.eq (.length (.field (.string "SceneShots$Reader" 56) "java/lang/String" "value" "[B")) (.int (Int32.ofNat 5))) (by decide +kernel)) (fun j hj => by
    rcases (show j = 0 ∨ j = 1 ∨ j = 2 ∨ j = 3 ∨ j = 4 by omega) with rfl | rfl | rfl | rfl | rfl
    · exact va_eqt (z := 108) (hs (.eq (.elem (.field (.string "SceneShots$Reader" 56) "java/lang/String" "value" "[B") (.int (Int32.ofNat 0))) (.int 108)) (by decide +kernel))
    · exact va_eqt (z := 105) (hs (.eq (.elem (.field (.string "SceneShots$Reader" 56) "java/lang/String" "value" "[B") (.int (Int32.ofNat 1))) (.int 105)) (by decide +kernel))
    · exact va_eqt (z := 110) (hs (.eq (.elem (.field (.string "SceneShots$Reader" 56) "java/lang/String" "value" "[B") (.int (Int32.ofNat 2))) (.int 110)) (by decide +kernel))
    · exact va_eqt (z := 101) (hs (.eq (.elem (.field (.string "SceneShots$Reader" 56) "java/lang/String" "value" "[B") (.int (Int32.ofNat 3))) (.int 101)) (by decide +kernel))
    · exact va_eqt (z := 115) (hs (.eq (.elem (.field (.string "SceneShots$Reader" 56) "java/lang/String" "value" "[B") (.int (Int32.ofNat 4))) (.int 115)) (by decide +kernel))) hA
theorem st_s2 (hs : ∀ c ∈ flatC (Jvm.Cond.and given_1 narrow_1), c.before #[Value.ref b] s = true) {A : Nat → Prop} (hA : ∀ a : Nat, a < s.heap.size → ¬ A a) : ∃ a v : Nat, (Term.string "SceneShots$Reader" 61).eval #[Value.ref b] s none [] s = some (.ref a) ∧ va_O "java/lang/String" a A s s.heap ∧ va_OF "java/lang/String" "value" "[B" (.ref v) a A s s.heap ∧ va_OF "java/lang/String" "coder" "B" (.int 0) a A s s.heap ∧ va_T .byte v 4 (fun j => .int (([115, 104, 111, 116] : List Int32).getD j 0)) A s s.heap := by
  refine str_of (by decide) (hs (.exactly (.string "SceneShots$Reader" 61) "java/lang/String") (by decide +kernel)) (hs (.eq (.field (.string "SceneShots$Reader" 61) "java/lang/String" "coder" "B") (.int 0)) (by decide +kernel)) (hs (.arrayOf (.field (.string "SceneShots$Reader" 61) "java/lang/String" "value" "[B") .byte) (by decide +kernel)) (hs (.eq (.length (.field (.string "SceneShots$Reader" 61) "java/lang/String" "value" "[B")) (.int (Int32.ofNat 4))) (by decide +kernel)) (fun j hj => by
    rcases (show j = 0 ∨ j = 1 ∨ j = 2 ∨ j = 3 by omega) with rfl | rfl | rfl | rfl
    · exact va_eqt (z := 115) (hs (.eq (.elem (.field (.string "SceneShots$Reader" 61) "java/lang/String" "value" "[B") (.int (Int32.ofNat 0))) (.int 115)) (by decide +kernel))
    · exact va_eqt (z := 104) (hs (.eq (.elem (.field (.string "SceneShots$Reader" 61) "java/lang/String" "value" "[B") (.int (Int32.ofNat 1))) (.int 104)) (by decide +kernel))
    · exact va_eqt (z := 111) (hs (.eq (.elem (.field (.string "SceneShots$Reader" 61) "java/lang/String" "value" "[B") (.int (Int32.ofNat 2))) (.int 111)) (by decide +kernel))
    · exact va_eqt (z := 116) (hs (.eq (.elem (.field (.string "SceneShots$Reader" 61) "java/lang/String" "value" "[B") (.int (Int32.ofNat 3))) (.int 116)) (by decide +kernel))) hA
/-- the start of a run -/
theorem start_ok {l : Launch} {L : Nat} {xs : Nat → Int32} (hts : ∀ w ∈ lw_tbl, w.before #[Value.ref b] s = true) (hgv : (Jvm.Cond.and given_1 narrow_1).before #[Value.ref b] s = true) (hX : va_X b L xs s s.heap) (hbl : b < s.heap.size) : ∃ g : Glob, g_l g = l ∧ g_s g = s ∧ g_L g = L ∧ g_a g 1005 = b ∧ GOK g := by
  have hs := flat_of_before _ hgv
  have hA : ∀ a : Nat, a < s.heap.size → ¬ (fun q : Nat => s.heap.size ≤ q) a := fun a h z => Nat.not_le.mpr h z
  obtain ⟨c0, i0, k0⟩ := u_known (C := RX0) (T := TX0) (N := 3) hts (fun w h => tbl_g (ct_in0 w h)) (hts _ q_i0)
  obtain ⟨c1, i1, k1⟩ := u_known (C := RX1) (T := TX1) (N := 11) hts (fun w h => tbl_g (ct_in1 w h)) (hts _ q_i1)
  obtain ⟨c2, i2, k2⟩ := u_known (C := RX2) (T := TX2) (N := 7) hts (fun w h => tbl_g (ct_in2 w h)) (hts _ q_i2)
  obtain ⟨c3, i3, k3⟩ := u_known (C := RX3) (T := TX3) (N := 6) hts (fun w h => tbl_g (ct_in3 w h)) (hts _ q_i3)
  obtain ⟨c4, i4, k4⟩ := u_known (C := RX4) (T := TX4) (N := 3) hts (fun w h => tbl_g (ct_in4 w h)) (hts _ q_i4)
  obtain ⟨c5, i5, k5⟩ := u_known (C := RX5) (T := TX5) (N := 8) hts (fun w h => tbl_g (ct_in5 w h)) (hts _ q_i5)
  obtain ⟨c6, i6, k6⟩ := u_known (C := RX6) (T := TX6) (N := 23) hts (fun w h => tbl_g (ct_in6 w h)) (hts _ q_i6)
  obtain ⟨aI, tI, fI⟩ := arr_of (hts _ (tbl_g q_newI))
  obtain ⟨aZ, tZ, fZ⟩ := arr_of (hts _ (tbl_g q_newZ))
  obtain ⟨aS, tS', fS⟩ := arr_ob (hts _ q_ov)
  obtain ⟨aA, tA, fA⟩ := arr_ar (hts _ q_oa)
  obtain ⟨t3, e3, T3⟩ := st_low hs hA
  obtain ⟨t4, e4, T4⟩ := st_high hs hA
  obtain ⟨s0, v0, es0, o0, f0, d0, b0⟩ := st_s0 hs hA
  obtain ⟨s1, v1, es1, o1, f1, d1, b1⟩ := st_s1 hs hA
  obtain ⟨s2, v2, es2, o2, f2, d2, b2⟩ := st_s2 hs hA
  have zL := va_Zof (hts _ q_l0) (hts _ q_n0) e3 hA
  have zH := va_Zof (hts _ q_l1) (hts _ q_n0) e4 hA
  have zC := va_Zof (hts _ q_l2) (hts _ q_n2) (va_eqi (hs (.eq (.static "java/lang/String" "COMPACT_STRINGS" "Z") (.int 1)) (by decide +kernel))) hA
  have zF := va_Zqof (hts _ q_l3) (hts _ q_n3) (hs (.isRef (.static "jdk/internal/util/Preconditions" "SIOOBE_FORMATTER" "Ljava/util/function/BiFunction;")) (by decide +kernel)) hA
  obtain ⟨t9, zF⟩ : ∃ t9 : Nat, va_Z "jdk/internal/util/Preconditions" "SIOOBE_FORMATTER" "Ljava/util/function/BiFunction;" .null (fun q : Nat => s.heap.size ≤ q) s s.heap ∨ va_Z "jdk/internal/util/Preconditions" "SIOOBE_FORMATTER" "Ljava/util/function/BiFunction;" (.ref t9) (fun q : Nat => s.heap.size ≤ q) s s.heap := by
    rcases zF with h | ⟨t, h⟩
    · exact ⟨0, Or.inl h⟩
    · exact ⟨t, Or.inr h⟩
  obtain ⟨scr, x1, x2, x3, x4, x5⟩ := hX
  refine ⟨(l, s, fun k => if k = 1000 then s0 else if k = 1001 then s1 else if k = 1002 then s2 else if k = 1003 then t3 else if k = 1004 then t4 else if k = 1005 then b else if k = 1010 then v0 else if k = 1011 then v1 else if k = 1012 then v2 else t9, (fun k => if k = 0 then c0 else if k = 1 then c1 else if k = 2 then c2 else if k = 3 then c3 else if k = 4 then c4 else if k = 5 then c5 else c6, fun k => if k = 0 then i0 else if k = 1 then i1 else if k = 2 then i2 else if k = 3 then i3 else if k = 4 then i4 else if k = 5 then i5 else i6), fun k => if k = 0 then aI else if k = 1 then aZ else if k = 2 then aS else aA, L, xs), rfl, rfl, rfl, rfl, ?_⟩
  refine ⟨⟨?_, ?_⟩, ?_, ?_, ⟨⟨o0, f0, d0⟩, ⟨o1, f1, d1⟩, ⟨o2, f2, d2⟩⟩, ⟨zL, zH⟩, zC, zF, ⟨vk_R.of (hts _ q_s0) es0, vk_R.of (hts _ q_s1) es1, vk_R.of (hts _ q_s2) es2, va_AO.of (hts _ q_ov), hts _ q_oa⟩, ?_⟩
  · intro k q hq
    match k, hq with
    | 0, hq => cases hq; exact k0
    | 1, hq => cases hq; exact k1
    | 2, hq => cases hq; exact k2
    | 3, hq => cases hq; exact k3
    | 4, hq => cases hq; exact k4
    | 5, hq => cases hq; exact k5
    | 6, hq => cases hq; exact k6
    | k + 7, hq => simp [vwCl] at hq
  · intro k q hq
    match k, hq with
    | 0, hq => cases hq; exact ⟨tI, fI⟩
    | 1, hq => cases hq; exact ⟨tZ, fZ⟩
    | 2, hq => cases hq; exact ⟨tS', fS⟩
    | 3, hq => cases hq; exact ⟨tA, fA⟩
    | k + 4, hq => simp [tys] at hq
  · intro k N f h
    unfold roI at h
    split at h
    · cases h; exact T3
    · cases h; exact T4
    · cases h
      exact ⟨scr, x1, x2, x3, by rw [x4]; exact Nat.le_refl _, by rw [x4]; rfl, x5, hA b hbl⟩
    · cases h
  · intro k N f h
    unfold roB at h
    split at h
    · cases h; exact b0
    · cases h; exact b1
    · cases h; exact b2
    · cases h
  · exact fun w hw ht => va_Nw.of ht (hts w hw)
end ST
