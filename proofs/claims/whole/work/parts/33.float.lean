/-! ===== dear: what sums there are ===== -/
def dl (k : Nat) : List Nat := match k with
  | 0 => [0]
  | 1 => [0, 1051372203, 1059760811, 1065353216, 1068149419, 1070945621, 1073741824, 1075139925, 1076538027, 1077936128]
  | 2 => [0, 1051372203, 1059760811, 1065353216, 1068149419, 1070945621, 1070945622, 1073741824, 1075139925, 1075139926, 1076538026, 1076538027, 1077936128, 1079334229, 1079334230, 1080732330, 1080732331, 1082130432, 1082829482, 1082829483, 1083528533, 1083528534, 1084227584, 1084926634, 1084926635, 1085625686, 1086324736]
  | 3 => [0, 1051372203, 1059760811, 1065353216, 1068149419, 1070945621, 1070945622, 1073741824, 1075139925, 1075139926, 1076538026, 1076538027, 1077936127, 1077936128, 1077936129, 1079334229, 1079334230, 1080732330, 1080732331, 1080732332, 1082130431, 1082130432, 1082829482, 1082829483, 1083528533, 1083528534, 1084227583, 1084227584, 1084227585, 1084926634, 1084926635, 1085625685, 1085625686, 1086324735, 1086324736, 1086324737, 1087023786, 1087023787, 1087722836, 1087722837, 1087722838, 1088421887, 1088421888, 1088421889, 1089120938, 1089120939, 1089120940, 1089819988, 1089819989, 1089819990, 1090519040, 1090868565, 1090868566, 1091218091, 1091567616]
  | 4 => [0, 1051372203, 1059760811, 1065353216, 1068149419, 1070945621, 1070945622, 1073741824, 1075139925, 1075139926, 1076538026, 1076538027, 1077936127, 1077936128, 1077936129, 1079334228, 1079334229, 1079334230, 1080732330, 1080732331, 1080732332, 1082130431, 1082130432, 1082130433, 1082829482, 1082829483, 1083528533, 1083528534, 1084227583, 1084227584, 1084227585, 1084926634, 1084926635, 1084926636, 1085625684, 1085625685, 1085625686, 1086324735, 1086324736, 1086324737, 1087023786, 1087023787, 1087023788, 1087722836, 1087722837, 1087722838, 1088421887, 1088421888, 1088421889, 1089120937, 1089120938, 1089120939, 1089120940, 1089819988, 1089819989, 1089819990, 1089819991, 1090519039, 1090519040, 1090519041, 1090868565, 1090868566, 1091218090, 1091218091, 1091567615, 1091567616, 1091567617, 1091917141, 1091917142, 1092266666, 1092266667, 1092616191, 1092616192, 1092616193, 1092965717, 1092965718, 1093315242, 1093315243, 1093664768, 1093664769, 1094014293, 1094014294, 1094363819, 1094713344]
  | 5 => [0, 1051372203, 1059760811, 1065353216, 1068149419, 1070945621, 1070945622, 1073741824, 1075139925, 1075139926, 1076538026, 1076538027, 1077936127, 1077936128, 1077936129, 1079334228, 1079334229, 1079334230, 1080732329, 1080732330, 1080732331, 1080732332, 1082130431, 1082130432, 1082130433, 1082829482, 1082829483, 1082829484, 1083528533, 1083528534, 1084227583, 1084227584, 1084227585, 1084926634, 1084926635, 1084926636, 1085625684, 1085625685, 1085625686, 1085625687, 1086324735, 1086324736, 1086324737, 1087023785, 1087023786, 1087023787, 1087023788, 1087722836, 1087722837, 1087722838, 1087722839, 1088421887, 1088421888, 1088421889, 1089120937, 1089120938, 1089120939, 1089120940, 1089819988, 1089819989, 1089819990, 1089819991, 1090519038, 1090519039, 1090519040, 1090519041, 1090868564, 1090868565, 1090868566, 1091218090, 1091218091, 1091218092, 1091567615, 1091567616, 1091567617, 1091917140, 1091917141, 1091917142, 1092266666, 1092266667, 1092266668, 1092616191, 1092616192, 1092616193, 1092965716, 1092965717, 1092965718, 1093315242, 1093315243, 1093315244, 1093664767, 1093664768, 1093664769, 1094014292, 1094014293, 1094014294, 1094363818, 1094363819, 1094363820, 1094713343, 1094713344, 1094713345, 1095062868, 1095062869, 1095062870, 1095412394, 1095412395, 1095412396, 1095761919, 1095761920, 1095761921, 1096111445, 1096111446, 1096460970, 1096460971, 1096460972, 1096810496, 1096810497, 1097160021, 1097160022, 1097509547, 1097859072]
  | _ => [0, 1051372203, 1059760811, 1065353216, 1068149419, 1070945621, 1070945622, 1073741824, 1075139925, 1075139926, 1076538026, 1076538027, 1077936127, 1077936128, 1077936129, 1079334228, 1079334229, 1079334230, 1080732329, 1080732330, 1080732331, 1080732332, 1082130430, 1082130431, 1082130432, 1082130433, 1082829482, 1082829483, 1082829484, 1083528532, 1083528533, 1083528534, 1083528535, 1084227583, 1084227584, 1084227585, 1084926634, 1084926635, 1084926636, 1085625684, 1085625685, 1085625686, 1085625687, 1086324735, 1086324736, 1086324737, 1086324738, 1087023785, 1087023786, 1087023787, 1087023788, 1087722836, 1087722837, 1087722838, 1087722839, 1088421886, 1088421887, 1088421888, 1088421889, 1088421890, 1089120937, 1089120938, 1089120939, 1089120940, 1089819988, 1089819989, 1089819990, 1089819991, 1090519038, 1090519039, 1090519040, 1090519041, 1090868564, 1090868565, 1090868566, 1091218089, 1091218090, 1091218091, 1091218092, 1091567615, 1091567616, 1091567617, 1091917140, 1091917141, 1091917142, 1091917143, 1092266665, 1092266666, 1092266667, 1092266668, 1092616191, 1092616192, 1092616193, 1092965716, 1092965717, 1092965718, 1092965719, 1093315241, 1093315242, 1093315243, 1093315244, 1093664767, 1093664768, 1093664769, 1094014292, 1094014293, 1094014294, 1094014295, 1094363817, 1094363818, 1094363819, 1094363820, 1094713343, 1094713344, 1094713345, 1095062868, 1095062869, 1095062870, 1095062871, 1095412393, 1095412394, 1095412395, 1095412396, 1095761919, 1095761920, 1095761921, 1096111444, 1096111445, 1096111446, 1096111447, 1096460969, 1096460970, 1096460971, 1096460972, 1096810495, 1096810496, 1096810497, 1097160020, 1097160021, 1097160022, 1097160023, 1097509545, 1097509546, 1097509547, 1097509548, 1097859071, 1097859072, 1097859073, 1098208596, 1098208597, 1098208598, 1098208599, 1098558122, 1098558123, 1098558124, 1098907647, 1098907648, 1098907649, 1099082410, 1099082411, 1099257173, 1099257174, 1099431936, 1099606698, 1099606699, 1099781461, 1099781462, 1099956224]
def th3 (q : Nat) : UInt32 := FP.fdiv (FP.i2f (nI q)) (UInt32.ofNat 1077936128)
def dchk (k : Nat) : Bool := (dl k).all fun a => (dl (k + 1)).elem a && (List.range 10).all fun q => (dl (k + 1)).elem (FP.fadd (UInt32.ofNat a) (th3 q)).toNat
theorem dchk_ok : ∀ k : Nat, k < 6 → dchk k = true := by decide +kernel
theorem dl_n : ∀ a ∈ dl 6, vf_n32 (UInt32.ofNat a) ∧ vf_n32 (FP.fmul (UInt32.ofNat 1148846080) (UInt32.ofNat a)) := by
  unfold vf_n32
  decide +kernel
theorem th_n : ∀ q : Nat, q < 10 → vf_n32 (th3 q) := by
  unfold vf_n32
  decide +kernel
theorem dl_up {k : Nat} (hk : k < 6) {a : Nat} (h : a ∈ dl k) : a ∈ dl (k + 1) := by
  have h1 := dchk_ok k hk
  unfold dchk at h1
  rw [List.all_eq_true] at h1
  have h2 := h1 a h
  rw [Bool.and_eq_true] at h2
  simpa using h2.1
theorem dl_st {k : Nat} (hk : k < 6) {x : UInt32} (h : x.toNat ∈ dl k) {q : Nat} (hq : q < 10) : (FP.fadd x (th3 q)).toNat ∈ dl (k + 1) := by
  have h1 := dchk_ok k hk
  unfold dchk at h1
  rw [List.all_eq_true] at h1
  have h2 := h1 _ h
  rw [Bool.and_eq_true, List.all_eq_true] at h2
  have h3 := h2.2 q (List.mem_range.mpr hq)
  rw [UInt32.ofNat_toNat] at h3
  simpa using h3
theorem dl_6 {k : Nat} (hk : k ≤ 6) {a : Nat} (h : a ∈ dl k) : a ∈ dl 6 := by
  obtain ⟨j, hj⟩ : ∃ j, k + j = 6 := ⟨6 - k, by omega⟩
  induction j generalizing k with
  | zero => rw [Nat.add_zero] at hj; subst hj; exact h
  | succ j ih => exact ih (k := k + 1) (by omega) (dl_up (by omega) h) (by omega)
/-- what a set of shots costs -/
def dF (pr : Nat → Int32) (u : Nat) : Nat → UInt32
  | 0 => FP.fconst0
  | i + 1 => if u.testBit i then FP.fadd (dF pr u i) (FP.fdiv (FP.i2f (pr i)) (UInt32.ofNat 1077936128)) else dF pr u i
theorem dF_in {pr : Nat → Int32} {u n : Nat} (h6 : n ≤ 6) (hp : ∀ s, s < n → ∃ q : Nat, q ≤ 9 ∧ pr s = nI q) : ∀ i, i ≤ n → (dF pr u i).toNat ∈ dl i := by
  intro i
  induction i with
  | zero => intro _; show (FP.fconst0).toNat ∈ dl 0; decide +kernel
  | succ i ih =>
    intro hi
    unfold dF
    split
    · obtain ⟨q, h1, h2⟩ := hp i (by omega)
      rw [h2]
      exact dl_st (by omega) (ih (by omega)) (by omega)
    · exact dl_up (by omega) (ih (by omega))
theorem dF_n {pr : Nat → Int32} {u n i : Nat} (h6 : n ≤ 6) (hp : ∀ s, s < n → ∃ q : Nat, q ≤ 9 ∧ pr s = nI q) (hi : i ≤ n) : vf_n32 (dF pr u i) ∧ vf_n32 (FP.fmul (UInt32.ofNat 1148846080) (dF pr u i)) := by
  have h1 := dF_in (u := u) h6 hp i hi
  have h2 := dl_n _ (dl_6 (k := i) (by omega) h1)
  rw [UInt32.ofNat_toNat] at h2
  exact h2
section DR
variable {g : Glob} {S : Scn} {O : Oth}
theorem ac_dear {n u : Nat} {pr : Nat → Int32} (h6 : n ≤ 6) (hu : u < 64) (hn : p_ns (o_Q O) = nI n) (hp : ∀ s, s < n → ∃ q : Nat, q ≤ 9 ∧ pr s = nI q) (hq : ∀ s, s < n → p_pri (o_Q O) s = pr s) : ACe g mX1_dear [.ref 55, .int (nI u)] (lay (S, O)) (some (.float (dF pr u n))) (lay (S, O)) := by
  refine acw gdX1_dear 40 rfl ?_
  refine dn (n := n) (P := fun i => AW g mX1_dear _ 0 0 4 [some (.ref 55), some (.int (nI u)), some (.float (dF pr u i)), some (.int (nI i))] [] (lay (S, O))) ?_ (fun i hi ih => ?_) 0 (Nat.zero_le _)
  · exact lpw gdX1_dear 40 ⟨fun _ => ⟨rfl, rfl⟩, fun h => absurd (show p_ns (o_Q O) ≤ _ by rw [hn]; exact nle (by omega) (by omega)) h⟩
  · refine lpw gdX1_dear 40 ⟨fun h => absurd (show p_ns (o_Q O) ≤ _ from h) (by rw [hn]; exact nge (by omega) (by omega)), fun _ => ⟨fun h1 => ?_, fun h1 => ?_⟩⟩
    · have e : ¬ u.testBit i = true := fun z => h1 ((tbI u hu i (by omega)).mpr z)
      have ed : dF pr u (i + 1) = dF pr u i := if_neg e
      rw [ed] at ih
      exact awl (by rw [← nI_1]; rfl) ih
    · have e := (tbI u hu i (by omega)).mp h1
      have ed : dF pr u (i + 1) = FP.fadd (dF pr u i) (FP.fdiv (FP.i2f (pr i)) (UInt32.ofNat 1077936128)) := if_pos e
      have hv := (dF_n (u := u) (i := i + 1) h6 hp (by omega)).1
      rw [ed] at ih hv
      obtain ⟨q, hq1, hq2⟩ := hp i hi
      have ht := th_n q (by omega)
      unfold th3 at ht
      rw [← hq2] at ht
      refine ⟨_, _, rfl, vlit (by omega) (by decide), ?_⟩
      rw [vcl (x := nI i) rfl (by omega), show p_pri (o_Q (S, O).snd) i = _ from hq i hi]
      refine ⟨ht, hv, ?_⟩
      exact awl (by rw [← nI_1]; rfl) ih
theorem am_dearOf {n u : Nat} (h6 : n ≤ 6) (hu : u < 64) (hn : z_now (o_M O) 13 = nI n) (hp : ∀ s, s < n → ∃ q : Nat, q ≤ 9 ∧ fcr (z_now (o_M O)) (7 * s + 6) = nI q) : ACe g mX6_dearOf [.ref 94, .int (nI u)] (lay (S, O)) (some (.float (dF (fun s => fcr (z_now (o_M O)) (7 * s + 6)) u n))) (lay (S, O)) := by
  refine acw gdX6_dearOf 40 rfl ?_
  refine dn (n := n) (P := fun i => AW g mX6_dearOf _ 0 0 4 [some (.ref 94), some (.int (nI u)), some (.float (dF (fun s => fcr (z_now (o_M O)) (7 * s + 6)) u i)), some (.int (nI i))] [] (lay (S, O))) ?_ (fun i hi ih => ?_) 0 (Nat.zero_le _)
  · refine lpw gdX6_dearOf 40 ⟨_, _, rfl, vlit (j := 13) (by decide) (by decide), ?_⟩
    exact ⟨fun _ => ⟨rfl, rfl⟩, fun h => absurd (show z_now (o_M O) 13 ≤ _ by rw [hn]; exact nle (by omega) (by omega)) h⟩
  · refine lpw gdX6_dearOf 40 ⟨_, _, rfl, vlit (j := 13) (by decide) (by decide), ?_⟩
    refine ⟨fun h => absurd (show z_now (o_M O) 13 ≤ _ from h) (by rw [hn]; exact nge (by omega) (by omega)), fun _ => ⟨fun h1 => ?_, fun h1 => ?_⟩⟩
    · have e : ¬ u.testBit i = true := fun z => h1 ((tbI u hu i (by omega)).mpr z)
      have ed : dF (fun s => fcr (z_now (o_M O)) (7 * s + 6)) u (i + 1) = dF (fun s => fcr (z_now (o_M O)) (7 * s + 6)) u i := if_neg e
      rw [ed] at ih
      exact awl (by rw [← nI_1]; rfl) ih
    · have e := (tbI u hu i (by omega)).mp h1
      have ed : dF (fun s => fcr (z_now (o_M O)) (7 * s + 6)) u (i + 1) = FP.fadd (dF (fun s => fcr (z_now (o_M O)) (7 * s + 6)) u i) (FP.fdiv (FP.i2f (fcr (z_now (o_M O)) (7 * i + 6))) (UInt32.ofNat 1077936128)) := if_pos e
      have hv := (dF_n (u := u) (i := i + 1) (pr := fun s => fcr (z_now (o_M O)) (7 * s + 6)) h6 hp (by omega)).1
      rw [ed] at ih hv
      obtain ⟨q, hq1, hq2⟩ := hp i hi
      have ht := th_n q (by omega)
      unfold th3 at ht
      rw [← hq2] at ht
      refine ac_to (am_of (s := i) (w := 6) (by omega) (by decide)) ?_
      refine ⟨ht, hv, ?_⟩
      exact awl (by rw [← nI_1]; rfl) ih
end DR
