/-- field types by class and place -/
def ctT (a : Nat) : u_T := match a with
  | 0 => TX0 | 1 => TX1 | 2 => TX2 | 3 => TX3 | 4 => TX4 | 5 => TX5 | _ => TX6
def cty (a : Nat) : Nat → FieldType := match a with
  | 0 => tyX0 | 1 => tyX1 | 2 => tyX2 | 3 => tyX3 | 4 => tyX4 | 5 => tyX5 | _ => tyX6
def ctR (a : Nat) : String := match a with
  | 0 => RX0 | 1 => RX1 | 2 => RX2 | 3 => RX3 | 4 => RX4 | 5 => RX5 | _ => RX6
def ctN (a : Nat) : Nat := match a with
  | 0 => 3 | 1 => 11 | 2 => 7 | 3 => 6 | 4 => 3 | 5 => 8 | _ => 23
theorem ct_cl {a : Nat} (h : a < 7) : vwCl[a]? = some (ctR a, ctT a, ctN a) := by
  rcases (show a = 0 ∨ a = 1 ∨ a = 2 ∨ a = 3 ∨ a = 4 ∨ a = 5 ∨ a = 6 by omega) with rfl | rfl | rfl | rfl | rfl | rfl | rfl <;> rfl
theorem ct_in0 : ∀ w ∈ u_ws RX0 TX0 3, w ∈ lw_g := by decide +kernel
theorem ct_in1 : ∀ w ∈ u_ws RX1 TX1 11, w ∈ lw_g := by decide +kernel
theorem ct_in2 : ∀ w ∈ u_ws RX2 TX2 7, w ∈ lw_g := by decide +kernel
theorem ct_in3 : ∀ w ∈ u_ws RX3 TX3 6, w ∈ lw_g := by decide +kernel
theorem ct_in4 : ∀ w ∈ u_ws RX4 TX4 3, w ∈ lw_g := by decide +kernel
theorem ct_in5 : ∀ w ∈ u_ws RX5 TX5 8, w ∈ lw_g := by decide +kernel
theorem ct_in6 : ∀ w ∈ u_ws RX6 TX6 23, w ∈ lw_g := by decide +kernel
theorem ct_in {a : Nat} (h : a < 7) : ∀ w ∈ u_ws (ctR a) (ctT a) (ctN a), w ∈ lw_g := by
  rcases (show a = 0 ∨ a = 1 ∨ a = 2 ∨ a = 3 ∨ a = 4 ∨ a = 5 ∨ a = 6 by omega) with rfl | rfl | rfl | rfl | rfl | rfl | rfl
  · exact ct_in0
  · exact ct_in1
  · exact ct_in2
  · exact ct_in3
  · exact ct_in4
  · exact ct_in5
  · exact ct_in6
theorem ct_ty {a : Nat} (h : a < 7) : ∀ k, k < ctN a → parseFieldDescriptor (ctT a k).2.2.1 = some (cty a k) := by
  rcases (show a = 0 ∨ a = 1 ∨ a = 2 ∨ a = 3 ∨ a = 4 ∨ a = 5 ∨ a = 6 by omega) with rfl | rfl | rfl | rfl | rfl | rfl | rfl
  · exact tyX0_ok
  · exact tyX1_ok
  · exact tyX2_ok
  · exact tyX3_ok
  · exact tyX4_ok
  · exact tyX5_ok
  · exact tyX6_ok
theorem ct_nm {a : Nat} (h : a < 7) : ∀ x, x < ctN a → ∀ y, y < ctN a → x ≠ y → (ctT a x).2.1 ≠ (ctT a y).2.1 := by
  rcases (show a = 0 ∨ a = 1 ∨ a = 2 ∨ a = 3 ∨ a = 4 ∨ a = 5 ∨ a = 6 by omega) with rfl | rfl | rfl | rfl | rfl | rfl | rfl
  · exact nmX0
  · exact nmX1
  · exact nmX2
  · exact nmX3
  · exact nmX4
  · exact nmX5
  · exact nmX6
theorem aw_get {g : Glob} {M : Mth} {Post : Option Value → AH → Prop} {cl sl pc : Nat} {ls : List (Option Value)} {st : List Value} {h : AH} {idx k a b : Nat} {fs : List Value} {v : Value} (hd : decode (m_cc M) pc = .ok (.getfield idx, 3)) (h7 : a < 7) (hb : b < ctN a) (hq : Cond.fieldLink (m_own M) idx (ctT a b).1 (ctT a b).2.1 (ctT a b).2.2.1 ∈ lw_g) (hk : hat h k = some (.inr (a, fs))) (hv : fs[b]? = some v) (K : AW g M Post cl sl (pc + 3) ls (v :: st) h) : AW g M Post cl sl pc ls (.ref k :: st) h := by
  intro p e s m args below meth c H locs lsA al0 n0 al C ha hw hl
  obtain ⟨hlt, hk⟩ := hat_some hk
  have hg := trW_get (g := g) (al := al) hk
  show W p (g_l g) e (m_room M) s m args below meth c H locs cl sl _ (F0 m pc lsA (.ref (trR g al k) :: st.map (trV g al)))
  rw [trR_lt hlt]
  exact va_get C.1 C.2.1 C.2.2.2.2.2.1 (ct_in h7) C.2.2.2.2.1 C.2.2.2.2.2.2.2.2.K hw.1 k hg (ct_cl h7) b hb (C.2.2.2.2.2.1 _ hq) (fun _ z => z) (v := trV g al v) (by rw [List.getElem?_map, hv]; rfl) hd (K p e s m args below meth c H locs lsA al0 n0 al C ha hw hl)
theorem agr_set {M : Mth} {al0 al : Nat → Nat} {n0 k : Nat} {h : AH} {e : va_E} (ha : agr M al0 n0 al h.length) : agr M al0 n0 al (h.set k e).length := by rw [List.length_set]; exact ha
theorem aw_put {g : Glob} {M : Mth} {Post : Option Value → AH → Prop} {cl sl pc : Nat} {ls : List (Option Value)} {st : List Value} {h : AH} {idx k a b : Nat} {fs : List Value} {v : Value} (hd : decode (m_cc M) pc = .ok (.putfield idx, 3)) (h7 : a < 7) (hb : b < ctN a) (hq : Cond.fieldLink (m_own M) idx (ctT a b).1 (ctT a b).2.1 (ctT a b).2.2.1 ∈ lw_g) (hk : hat h k = some (.inr (a, fs))) (hl2 : b < fs.length) (hf : (ctT a b).2.2.2 = false ∨ ((m_y M).name = "<init>" ∧ (ctT a b).1 = m_own M)) (hn : ∀ al, narrow (cty a b) (trV g al v) = trV g al v) (ht : ∀ al, fits (cty a b) (trV g al v) = true) (K : AW g M Post cl sl (pc + 3) ls st (h.set k (.inr (a, fs.set b v)))) : AW g M Post cl sl pc ls (v :: .ref k :: st) h := by
  intro p e s m args below meth c H locs lsA al0 n0 al C ha hw hl
  obtain ⟨hlt, hk⟩ := hat_some hk
  have hg := trW_get (g := g) (al := al) hk
  show W p (g_l g) e (m_room M) s m args below meth c H locs cl sl _ (F0 m pc lsA (trV g al v :: .ref (trR g al k) :: st.map (trV g al)))
  rw [trR_lt hlt]
  have key : ∀ (H1 : Heap) (locs1 : List Loc), va_P (g_D g) vwCl ((trW g al h).set k (al k, .inr (a, (fs.map (trV g al)).set b (trV g al v)))) H1 → va_D (g_A g) ((trW g al h).set k (al k, .inr (a, (fs.map (trV g al)).set b (trV g al v)))) → va_S (g_A g) s.heap H1 locs1 → W p (g_l g) e (m_room M) s m args below meth c H1 locs1 cl sl (MQ below (QC g M Post al0 n0) args s (m_mc M) (m_ms M) (g_A g)) (F0 m (pc + 3) lsA (st.map (trV g al))) := by
    intro H1 locs1 hP1 hD1 hS1
    have e1 : trW g al (h.set k (.inr (a, fs.set b v))) = (trW g al h).set k (al k, .inr (a, (fs.map (trV g al)).set b (trV g al v))) := by
      rw [trW_set]
      show (trW g al h).set k (al k, .inr (a, (fs.set b v).map (trV g al))) = _
      rw [List.map_set]
    exact K p e s m args below meth c H1 locs1 lsA al0 n0 al C (agr_set ha) ⟨by rw [e1]; exact hP1, by rw [e1]; exact hD1, hS1⟩ hl
  rcases hf with hf | ⟨hi, ho⟩
  · exact va_put C.1 C.2.1 C.2.2.2.2.2.1 (ct_in h7) (cty a) (ct_ty h7) (ct_nm h7) C.2.2.2.2.1 C.2.2.2.2.2.2.2.2.K hw.1 hw.2.1 hw.2.2 k hg (ct_cl h7) b hb (C.2.2.2.2.2.1 _ hq) (fun _ z => z) hf (ct_ty h7 b hb) (hn al) (ht al) (by rw [List.length_map]; exact hl2) hd key
  · cases hfin : (ctT a b).2.2.2 with
    | false => exact va_put C.1 C.2.1 C.2.2.2.2.2.1 (ct_in h7) (cty a) (ct_ty h7) (ct_nm h7) C.2.2.2.2.1 C.2.2.2.2.2.2.2.2.K hw.1 hw.2.1 hw.2.2 k hg (ct_cl h7) b hb (C.2.2.2.2.2.1 _ hq) (fun _ z => z) hfin (ct_ty h7 b hb) (hn al) (ht al) (by rw [List.length_map]; exact hl2) hd key
    | true => exact va_putF C.1 C.2.1 C.2.2.2.2.2.1 (ct_in h7) (cty a) (ct_ty h7) (ct_nm h7) C.2.2.2.2.1 C.2.2.2.2.2.2.2.2.K hw.1 hw.2.1 hw.2.2 k hg (ct_cl h7) b hb (C.2.2.2.2.2.1 _ hq) (fun _ z => z) hfin (C.2.2.2.2.2.2.2.1.trans hi) ho (ct_ty h7 b hb) (hn al) (ht al) (by rw [List.length_map]; exact hl2) hd key
theorem aw_iald {g : Glob} {M : Mth} {Post : Option Value → AH → Prop} {cl sl pc : Nat} {ls : List (Option Value)} {st : List Value} {h : AH} {k n : Nat} {f : Nat → Int32} {i : Int32} (hd : decode (m_cc M) pc = .ok (.iaload, 1)) (hk : hat h k = some (.inl (0, n, .inl f))) (hin : vp_in i n) (K : AW g M Post cl sl (pc + 1) ls (.int (f i.toNatClampNeg) :: st) h) : AW g M Post cl sl pc ls (.int i :: .ref k :: st) h := by
  intro p e s m args below meth c H locs lsA al0 n0 al C ha hw hl
  obtain ⟨hlt, hk⟩ := hat_some hk
  have hg : (trW g al h)[k]? = some (al k, .inl (g_c g 0, n, .inl f)) := trW_get (g := g) (al := al) hk
  show W p (g_l g) e (m_room M) s m args below meth c H locs cl sl _ (F0 m pc lsA (.int i :: .ref (trR g al k) :: st.map (trV g al)))
  rw [trR_lt hlt]
  exact va_iald C.1 C.2.1 C.2.2.2.2.2.2.2.2.K hw.1 k 0 hg rfl hin hd (K p e s m args below meth c H locs lsA al0 n0 al C ha hw hl)
theorem aw_zald {g : Glob} {M : Mth} {Post : Option Value → AH → Prop} {cl sl pc : Nat} {ls : List (Option Value)} {st : List Value} {h : AH} {k n : Nat} {f : Nat → Int32} {i : Int32} (hd : decode (m_cc M) pc = .ok (.baload, 1)) (hk : hat h k = some (.inl (1, n, .inl f))) (hin : vp_in i n) (K : AW g M Post cl sl (pc + 1) ls (.int (f i.toNatClampNeg) :: st) h) : AW g M Post cl sl pc ls (.int i :: .ref k :: st) h := by
  intro p e s m args below meth c H locs lsA al0 n0 al C ha hw hl
  obtain ⟨hlt, hk⟩ := hat_some hk
  have hg : (trW g al h)[k]? = some (al k, .inl (g_c g 1, n, .inl f)) := trW_get (g := g) (al := al) hk
  show W p (g_l g) e (m_room M) s m args below meth c H locs cl sl _ (F0 m pc lsA (.int i :: .ref (trR g al k) :: st.map (trV g al)))
  rw [trR_lt hlt]
  exact va_zald C.1 C.2.1 C.2.2.2.2.2.2.2.2.K hw.1 k 1 hg rfl hin hd (K p e s m args below meth c H locs lsA al0 n0 al C ha hw hl)
theorem aw_iast {g : Glob} {M : Mth} {Post : Option Value → AH → Prop} {cl sl pc : Nat} {ls : List (Option Value)} {st : List Value} {h : AH} {k n : Nat} {f : Nat → Int32} {i x : Int32} (hd : decode (m_cc M) pc = .ok (.iastore, 1)) (hk : hat h k = some (.inl (0, n, .inl f))) (hin : vp_in i n) (K : AW g M Post cl sl (pc + 1) ls st (h.set k (.inl (0, n, .inl (upd f i.toNatClampNeg x))))) : AW g M Post cl sl pc ls (.int x :: .int i :: .ref k :: st) h := by
  intro p e s m args below meth c H locs lsA al0 n0 al C ha hw hl
  obtain ⟨hlt, hk⟩ := hat_some hk
  have hg : (trW g al h)[k]? = some (al k, .inl (g_c g 0, n, .inl f)) := trW_get (g := g) (al := al) hk
  show W p (g_l g) e (m_room M) s m args below meth c H locs cl sl _ (F0 m pc lsA (.int x :: .int i :: .ref (trR g al k) :: st.map (trV g al)))
  rw [trR_lt hlt]
  refine va_iast C.1 C.2.1 C.2.2.2.2.2.2.2.2.K hw.1 hw.2.1 hw.2.2 k 0 hg rfl hin hd (fun H1 locs1 hP1 hD1 hS1 => ?_)
  have e1 : trW g al (h.set k (.inl (0, n, .inl (upd f i.toNatClampNeg x)))) = (trW g al h).set k (al k, .inl (g_c g 0, n, .inl (upd f i.toNatClampNeg x))) := trW_set
  exact K p e s m args below meth c H1 locs1 lsA al0 n0 al C (agr_set ha) ⟨by rw [e1]; exact hP1, by rw [e1]; exact hD1, hS1⟩ hl
theorem aw_zast {g : Glob} {M : Mth} {Post : Option Value → AH → Prop} {cl sl pc : Nat} {ls : List (Option Value)} {st : List Value} {h : AH} {k n : Nat} {f : Nat → Int32} {i x : Int32} (hd : decode (m_cc M) pc = .ok (.bastore, 1)) (hk : hat h k = some (.inl (1, n, .inl f))) (hin : vp_in i n) (K : AW g M Post cl sl (pc + 1) ls st (h.set k (.inl (1, n, .inl (upd f i.toNatClampNeg (vp_nar .boolean x)))))) : AW g M Post cl sl pc ls (.int x :: .int i :: .ref k :: st) h := by
  intro p e s m args below meth c H locs lsA al0 n0 al C ha hw hl
  obtain ⟨hlt, hk⟩ := hat_some hk
  have hg : (trW g al h)[k]? = some (al k, .inl (g_c g 1, n, .inl f)) := trW_get (g := g) (al := al) hk
  show W p (g_l g) e (m_room M) s m args below meth c H locs cl sl _ (F0 m pc lsA (.int x :: .int i :: .ref (trR g al k) :: st.map (trV g al)))
  rw [trR_lt hlt]
  refine va_zast C.1 C.2.1 C.2.2.2.2.2.2.2.2.K hw.1 hw.2.1 hw.2.2 k 1 hg rfl hin hd (fun H1 locs1 hP1 hD1 hS1 => ?_)
  have e1 : trW g al (h.set k (.inl (1, n, .inl (upd f i.toNatClampNeg (vp_nar .boolean x))))) = (trW g al h).set k (al k, .inl (g_c g 1, n, .inl (upd f i.toNatClampNeg (vp_nar .boolean x)))) := trW_set
  exact K p e s m args below meth c H1 locs1 lsA al0 n0 al C (agr_set ha) ⟨by rw [e1]; exact hP1, by rw [e1]; exact hD1, hS1⟩ hl
theorem aw_aald {g : Glob} {M : Mth} {Post : Option Value → AH → Prop} {cl sl pc : Nat} {ls : List (Option Value)} {st : List Value} {h : AH} {k n t q : Nat} {f : Nat → Option Nat} {i : Int32} (hd : decode (m_cc M) pc = .ok (.aaload, 1)) (ht : t = 2 ∨ t = 3) (hk : hat h k = some (.inl (t, n, .inr (.inr (.inr (.inr f)))))) (hin : vp_in i n) (hq : f i.toNatClampNeg = some q) (K : AW g M Post cl sl (pc + 1) ls (.ref q :: st) h) : AW g M Post cl sl pc ls (.int i :: .ref k :: st) h := by
  intro p e s m args below meth c H locs lsA al0 n0 al C ha hw hl
  obtain ⟨hlt, hk⟩ := hat_some hk
  have hg : (trW g al h)[k]? = some (al k, .inl (g_c g t, n, .inr (.inr (.inr (.inr (fun i => if i < n then (f i).map (trR g al) else none)))))) := trW_get (g := g) (al := al) hk
  show W p (g_l g) e (m_room M) s m args below meth c H locs cl sl _ (F0 m pc lsA (.int i :: .ref (trR g al k) :: st.map (trV g al)))
  rw [trR_lt hlt]
  have hlt2 : i.toNatClampNeg < n := Nat.not_le.mp fun z => hin (Or.inr z)
  have hKK := K p e s m args below meth c H locs lsA al0 n0 al C ha hw hl
  have hA : ∀ ty, (hty : ty.isReference = true) → ArrOfT s (g_c g t) ty → W p (g_l g) e (m_room M) s m args below meth c H locs cl sl (MQ below (QC g M Post al0 n0) args s (m_mc M) (m_ms M) (g_A g)) (F0 m pc lsA (.int i :: .ref (al k) :: st.map (trV g al))) := fun ty hty hO =>
    W.aald (v := .ref (trR g al q)) (ty := ty) C.1 C.2.1 (hw.1 k _ hg) (hO n (fun j => va_rf (if j < n then (f j).map (trR g al) else none))) hty (fun z => by cases z) (by show ¬ (i < 0 ∨ (arrV _ _ _).slots.size ≤ _); rw [arrV_size]; exact hin) (by show (arrV _ _ _).slots[_]? = _; rw [arrV_read _ _ hlt2]; simp only [hlt2, if_true, hq]; rfl) rfl rfl hd hKK
  rcases ht with rfl | rfl
  · exact hA (.object "SceneShots$Scene") rfl (C.2.2.2.2.2.2.2.2.K.2 2 _ rfl).1
  · exact hA (.array .int) rfl (C.2.2.2.2.2.2.2.2.K.2 3 _ rfl).1
theorem trC_up {g : Glob} {al : Nat → Nat} {n j q : Nat} {f : Nat → Option Nat} (hj : j < n) : (fun i => if i < n then (va_up f j (some q) i).map (trR g al) else none) = va_up (fun i => if i < n then (f i).map (trR g al) else none) j (some (trR g al q)) := by
  funext i
  by_cases hi : i = j
  · subst hi
    simp [va_up, hj]
  · simp [va_up, hi]
theorem aw_aast {g : Glob} {M : Mth} {Post : Option Value → AH → Prop} {cl sl pc : Nat} {ls : List (Option Value)} {st : List Value} {h : AH} {k n q : Nat} {fs : List Value} {f : Nat → Option Nat} {i : Int32} (hd : decode (m_cc M) pc = .ok (.aastore, 1)) (hk : hat h k = some (.inl (2, n, .inr (.inr (.inr (.inr f)))))) (hin : vp_in i n) (hq : hat h q = some (.inr (3, fs))) (K : AW g M Post cl sl (pc + 1) ls st (h.set k (.inl (2, n, .inr (.inr (.inr (.inr (va_up f i.toNatClampNeg (some q))))))))) : AW g M Post cl sl pc ls (.ref q :: .int i :: .ref k :: st) h := by
  intro p e s m args below meth c H locs lsA al0 n0 al C ha hw hl
  obtain ⟨hlt, hk⟩ := hat_some hk
  obtain ⟨hlq, hq⟩ := hat_some hq
  have hg : (trW g al h)[k]? = some (al k, .inl (g_c g 2, n, .inr (.inr (.inr (.inr (fun i => if i < n then (f i).map (trR g al) else none)))))) := trW_get (g := g) (al := al) hk
  have hgq : (trW g al h)[q]? = some (al q, .inr (3, fs.map (trV g al))) := trW_get (g := g) (al := al) hq
  show W p (g_l g) e (m_room M) s m args below meth c H locs cl sl _ (F0 m pc lsA (.ref (trR g al q) :: .int i :: .ref (trR g al k) :: st.map (trV g al)))
  rw [trR_lt hlt, trR_lt hlq]
  have hlt2 : i.toNatClampNeg < n := Nat.not_le.mp fun z => hin (Or.inr z)
  refine va_astq C.1 C.2.1 C.2.2.2.2.2.2.2.2.K hw.1 hw.2.1 hw.2.2 k 2 q 3 hg (r := (RX3, TX3, 6)) rfl hgq rfl hin hd (fun H1 locs1 hP1 hD1 hS1 => ?_)
  have e1 : trW g al (h.set k (.inl (2, n, .inr (.inr (.inr (.inr (va_up f i.toNatClampNeg (some q)))))))) = (trW g al h).set k (al k, .inl (g_c g 2, n, .inr (.inr (.inr (.inr (va_up (fun i => if i < n then (f i).map (trR g al) else none) i.toNatClampNeg (some (al q)))))))) := by
    rw [trW_set]
    show (trW g al h).set k (al k, .inl (g_c g 2, n, .inr (.inr (.inr (.inr (fun i_1 => if i_1 < n then (va_up f i.toNatClampNeg (some q) i_1).map (trR g al) else none)))))) = _
    rw [trC_up hlt2, trR_lt hlq]
  exact K p e s m args below meth c H1 locs1 lsA al0 n0 al C (agr_set ha) ⟨by rw [e1]; exact hP1, by rw [e1]; exact hD1, hS1⟩ hl
theorem Bh.T {g : Glob} {s : State} (hB : Bh g s) {ty : FieldType} {t N : Nat} {f : Nat → Value} (h : va_T ty t N f (g_A g) (g_s g) (g_s g).heap) : va_T ty t N f (g_A g) s s.heap := (h.kept hB.ke).moved hB.2.2.2.alike
theorem Bh.Z {g : Glob} {s : State} (hB : Bh g s) {C n d : String} {v : Value} (h : g_Z g C n d v) : va_Z C n d v (g_A g) s s.heap := (va_Z.kept h hB.ke).moved hB.2.2.2.alike
theorem aw_roI {g : Glob} {M : Mth} {Post : Option Value → AH → Prop} {cl sl pc : Nat} {ls : List (Option Value)} {st : List Value} {h : AH} {k n : Nat} {f : Nat → Int32} {i : Int32} (hd : decode (m_cc M) pc = .ok (.iaload, 1)) (hk0 : ¬ k < 1000) (hk : roI g k = some (n, f)) (hin : vp_in i n) (K : AW g M Post cl sl (pc + 1) ls (.int (f i.toNatClampNeg) :: st) h) : AW g M Post cl sl pc ls (.int i :: .ref k :: st) h := by
  intro p e s m args below meth c H locs lsA al0 n0 al C ha hw hl
  show W p (g_l g) e (m_room M) s m args below meth c H locs cl sl _ (F0 m pc lsA (.int i :: .ref (trR g al k) :: st.map (trV g al)))
  rw [trR_ge hk0]
  exact va_ti C.1 C.2.1 (C.2.2.2.2.2.2.2.2.T (C.2.2.2.2.2.2.2.2.1.2.1 k n f hk)) hw.2.2 hin rfl hd (K p e s m args below meth c H locs lsA al0 n0 al C ha hw hl)
theorem aw_roB {g : Glob} {M : Mth} {Post : Option Value → AH → Prop} {cl sl pc : Nat} {ls : List (Option Value)} {st : List Value} {h : AH} {k n : Nat} {f : Nat → Int32} {i : Int32} (hd : decode (m_cc M) pc = .ok (.baload, 1)) (hk0 : ¬ k < 1000) (hk : roB k = some (n, f)) (hin : vp_in i n) (K : AW g M Post cl sl (pc + 1) ls (.int (f i.toNatClampNeg) :: st) h) : AW g M Post cl sl pc ls (.int i :: .ref k :: st) h := by
  intro p e s m args below meth c H locs lsA al0 n0 al C ha hw hl
  show W p (g_l g) e (m_room M) s m args below meth c H locs cl sl _ (F0 m pc lsA (.int i :: .ref (trR g al k) :: st.map (trV g al)))
  rw [trR_ge hk0]
  exact va_tb C.1 C.2.1 (C.2.2.2.2.2.2.2.2.T (C.2.2.2.2.2.2.2.2.1.2.2.1 k n f hk)) hw.2.2 hin rfl hd (K p e s m args below meth c H locs lsA al0 n0 al C ha hw hl)
theorem aw_lenI {g : Glob} {M : Mth} {Post : Option Value → AH → Prop} {cl sl pc : Nat} {ls : List (Option Value)} {st : List Value} {h : AH} {k n : Nat} {f : Nat → Int32} (hd : decode (m_cc M) pc = .ok (.arraylength, 1)) (hk0 : ¬ k < 1000) (hk : roI g k = some (n, f)) (K : AW g M Post cl sl (pc + 1) ls (.int (Int32.ofNat n) :: st) h) : AW g M Post cl sl pc ls (.ref k :: st) h := by
  intro p e s m args below meth c H locs lsA al0 n0 al C ha hw hl
  show W p (g_l g) e (m_room M) s m args below meth c H locs cl sl _ (F0 m pc lsA (.ref (trR g al k) :: st.map (trV g al)))
  rw [trR_ge hk0]
  exact va_tlen C.1 C.2.1 (C.2.2.2.2.2.2.2.2.T (C.2.2.2.2.2.2.2.2.1.2.1 k n f hk)) hw.2.2 rfl hd (K p e s m args below meth c H locs lsA al0 n0 al C ha hw hl)
theorem aw_lenB {g : Glob} {M : Mth} {Post : Option Value → AH → Prop} {cl sl pc : Nat} {ls : List (Option Value)} {st : List Value} {h : AH} {k n : Nat} {f : Nat → Int32} (hd : decode (m_cc M) pc = .ok (.arraylength, 1)) (hk0 : ¬ k < 1000) (hk : roB k = some (n, f)) (K : AW g M Post cl sl (pc + 1) ls (.int (Int32.ofNat n) :: st) h) : AW g M Post cl sl pc ls (.ref k :: st) h := by
  intro p e s m args below meth c H locs lsA al0 n0 al C ha hw hl
  show W p (g_l g) e (m_room M) s m args below meth c H locs cl sl _ (F0 m pc lsA (.ref (trR g al k) :: st.map (trV g al)))
  rw [trR_ge hk0]
  exact va_tlen C.1 C.2.1 (C.2.2.2.2.2.2.2.2.T (C.2.2.2.2.2.2.2.2.1.2.2.1 k n f hk)) hw.2.2 rfl hd (K p e s m args below meth c H locs lsA al0 n0 al C ha hw hl)
def roN (b : Nat) : String × String := match b with
  | 0 => ("value", "[B")
  | _ => ("coder", "B")
theorem roF_OF {g : Glob} (hG : GOK g) {k b : Nat} {v : Value} (hk : roF k b = some v) : ¬ k < 1000 ∧ ∀ al, va_OF "java/lang/String" (roN b).1 (roN b).2 (trV g al v) (g_a g k) (g_A g) (g_s g) (g_s g).heap := by
  obtain ⟨-, -, -, ⟨h0, h1, h2⟩, -⟩ := hG
  unfold roF at hk
  split at hk
  · cases hk; exact ⟨by decide, fun _ => h0.2.1⟩
  · cases hk; exact ⟨by decide, fun _ => h1.2.1⟩
  · cases hk; exact ⟨by decide, fun _ => h2.2.1⟩
  · cases hk; exact ⟨by decide, fun _ => h0.2.2⟩
  · cases hk; exact ⟨by decide, fun _ => h1.2.2⟩
  · cases hk; exact ⟨by decide, fun _ => h2.2.2⟩
  · cases hk
theorem aw_roF {g : Glob} {M : Mth} {Post : Option Value → AH → Prop} {cl sl pc : Nat} {ls : List (Option Value)} {st : List Value} {h : AH} {idx k b : Nat} {v : Value} (hd : decode (m_cc M) pc = .ok (.getfield idx, 3)) (hq : Cond.fieldLink (m_own M) idx "java/lang/String" (roN b).1 (roN b).2 ∈ lw_g) (hk : roF k b = some v) (K : AW g M Post cl sl (pc + 3) ls (v :: st) h) : AW g M Post cl sl pc ls (.ref k :: st) h := by
  intro p e s m args below meth c H locs lsA al0 n0 al C ha hw hl
  have hB := C.2.2.2.2.2.2.2.2
  obtain ⟨hk0, hO⟩ := roF_OF hB.1 hk
  show W p (g_l g) e (m_room M) s m args below meth c H locs cl sl _ (F0 m pc lsA (.ref (trR g al k) :: st.map (trV g al)))
  rw [trR_ge hk0]
  obtain ⟨cf, kk, fi, f, cell, h1, h2, h3, h4, h5, h6⟩ := (((hO al).kept hB.ke).moved hB.2.2.2.alike).kept hw.2.2.2.1
  exact W.getf C.1 C.2.1 C.2.2.2.2.1 (C.2.2.2.2.2.1 _ hq) h1 h2 h3 h4 (v := trV g al v) h5 rfl rfl hd (K p e s m args below meth c H locs lsA al0 n0 al C ha hw hl)
theorem aw_gsN {g : Glob} {M : Mth} {Post : Option Value → AH → Prop} {cl sl pc : Nat} {ls : List (Option Value)} {st : List Value} {h : AH} {idx : Nat} {k : Nat} {C0 n d ref host : String} (hd : decode (m_cc M) pc = .ok (.getstatic idx, 3)) (hq : Cond.fieldLinkNest (m_own M) idx C0 n d host ∈ lw_tbl) (hk0 : ¬ k < 1000) (hZ : GOK g → g_Z g C0 n d (.ref (g_a g k))) (K : AW g M Post cl sl (pc + 3) ls (.ref k :: st) h) : AW g M Post cl sl pc ls st h := by
  intro p e s m args below meth c H locs lsA al0 n0 al C ha hw hl
  have hK := K p e s m args below meth c H locs lsA al0 n0 al C ha hw hl
  have e1 : (Value.ref k :: st).map (trV g al) = .ref (g_a g k) :: st.map (trV g al) := by
    show Value.ref (trR g al k) :: _ = _
    rw [trR_ge hk0]
  rw [e1] at hK
  exact va_getsN C.1 C.2.1 (C.2.2.2.2.2.2.2.2.Z (hZ C.2.2.2.2.2.2.2.2.1)) hw.2.2 C.2.2.2.2.1 (va_Nw.use rfl ((C.2.2.2.2.2.2.2.2.1.2.2.2.2.2.2.2.2 _ hq rfl).warmF C.2.2.2.2.2.2.2.2.2.2.2)) (fun _ z => z) hd hK
theorem aw_gsI {g : Glob} {M : Mth} {Post : Option Value → AH → Prop} {cl sl pc : Nat} {ls : List (Option Value)} {st : List Value} {h : AH} {idx : Nat} {x : Int32} {C0 n d : String} (hd : decode (m_cc M) pc = .ok (.getstatic idx, 3)) (hq : Cond.fieldLink (m_own M) idx C0 n d ∈ lw_g) (hZ : GOK g → g_Z g C0 n d (.int x)) (K : AW g M Post cl sl (pc + 3) ls (.int x :: st) h) : AW g M Post cl sl pc ls st h := by
  intro p e s m args below meth c H locs lsA al0 n0 al C ha hw hl
  exact va_gets C.1 C.2.1 (C.2.2.2.2.2.2.2.2.Z (hZ C.2.2.2.2.2.2.2.2.1)) hw.2.2 C.2.2.2.2.1 (C.2.2.2.2.2.1 _ hq) (fun _ z => z) hd (K p e s m args below meth c H locs lsA al0 n0 al C ha hw hl)
theorem aw_gsF {g : Glob} {M : Mth} {Post : Option Value → AH → Prop} {cl sl pc : Nat} {ls : List (Option Value)} {st : List Value} {h : AH} {idx : Nat} (hd : decode (m_cc M) pc = .ok (.getstatic idx, 3)) (hq : Cond.fieldLink (m_own M) idx "jdk/internal/util/Preconditions" "SIOOBE_FORMATTER" "Ljava/util/function/BiFunction;" ∈ lw_g) (K1 : AW g M Post cl sl (pc + 3) ls (.null :: st) h) (K2 : AW g M Post cl sl (pc + 3) ls (.ref 1020 :: st) h) : AW g M Post cl sl pc ls st h := by
  intro p e s m args below meth c H locs lsA al0 n0 al C ha hw hl
  have hB := C.2.2.2.2.2.2.2.2
  rcases hB.1.2.2.2.2.2.2.1 with hZ | hZ
  · exact va_gets C.1 C.2.1 (hB.Z hZ) hw.2.2 C.2.2.2.2.1 (C.2.2.2.2.2.1 _ hq) (fun _ z => z) hd (K1 p e s m args below meth c H locs lsA al0 n0 al C ha hw hl)
  · exact va_gets C.1 C.2.1 (hB.Z hZ) hw.2.2 C.2.2.2.2.1 (C.2.2.2.2.2.1 _ hq) (fun _ z => z) hd (K2 p e s m args below meth c H locs lsA al0 n0 al C ha hw hl)
theorem aw_ldcS {g : Glob} {M : Mth} {Post : Option Value → AH → Prop} {cl sl pc : Nat} {ls : List (Option Value)} {st : List Value} {h : AH} {idx k : Nat} {tx : String} (hd : decode (m_cc M) pc = .ok (.ldc idx, 2)) (hk0 : ¬ k < 1000) (hZ : GOK g → vk_R (m_own M) idx tx (g_a g k) (g_s g)) (K : AW g M Post cl sl (pc + 2) ls (.ref k :: st) h) : AW g M Post cl sl pc ls st h := by
  intro p e s m args below meth c H locs lsA al0 n0 al C ha hw hl
  have hB := C.2.2.2.2.2.2.2.2
  have hK := K p e s m args below meth c H locs lsA al0 n0 al C ha hw hl
  have e1 : (Value.ref k :: st).map (trV g al) = .ref (g_a g k) :: st.map (trV g al) := by
    show Value.ref (trR g al k) :: _ = _
    rw [trR_ge hk0]
  rw [e1] at hK
  exact va_ldcS C.1 C.2.1 C.2.2.2.2.1 ((hZ hB.1).warm hB.2.2.2) hd hK
theorem aw_tsw {g : Glob} {M : Mth} {Post : Option Value → AH → Prop} {cl sl pc : Nat} {ls : List (Option Value)} {st : List Value} {h : AH} {dflt lo hi : Int} {offs : Array Int} {len : Nat} {x : Int32} {t : Nat} (hd : decode (m_cc M) pc = .ok (.tableswitch dflt lo hi offs, len)) (ht : (pc : Int) + dflt = (t : Int)) (K1 : x.toInt < lo ∨ hi < x.toInt → AW g M Post cl sl t ls st h) (K2 : ¬ x.toInt < lo → ¬ hi < x.toInt → ∃ (off : Int) (u : Nat), offs[(x.toInt - lo).toNat]? = some off ∧ (pc : Int) + off = (u : Int) ∧ AW g M Post cl sl u ls st h) : AW g M Post cl sl pc ls (.int x :: st) h := by
  intro p e s m args below meth c H locs lsA al0 n0 al C ha hw hl
  by_cases hx : x.toInt < lo ∨ hi < x.toInt
  · exact lv_tableOut C.1 C.2.1 hd hx ht (K1 hx p e s m args below meth c H locs lsA al0 n0 al C ha hw hl)
  · have h1 : ¬ x.toInt < lo := fun z => hx (Or.inl z)
    have h2 : ¬ hi < x.toInt := fun z => hx (Or.inr z)
    obtain ⟨off, u, ho, hu, K⟩ := K2 h1 h2
    exact lv_tableIn C.1 C.2.1 hd h1 h2 ho hu (K p e s m args below meth c H locs lsA al0 n0 al C ha hw hl)
theorem aw_zret {g : Glob} {M : Mth} {Post : Option Value → AH → Prop} {cl sl pc : Nat} {ls : List (Option Value)} {st : List Value} {h : AH} {ty : FieldType} {v : Int32} (hd : decode (m_cc M) pc = .ok (.ireturn, 1)) (hr : m_ret M = some ty) (hn : narrow ty (.int v) = .int v) (hc : cl ≤ m_mc M) (hs : sl ≤ m_ms M) (hP : Post (some (.int v)) h) : AW g M Post cl sl pc ls [.int v] h := by
  intro p e s m args below meth c H locs lsA al0 n0 al C ha hw hl
  refine W.widen (k := m_mc M) (n := m_ms M) hc hs ?_
  exact W.zret C.1 C.2.1 (C.2.2.1.trans hr) hn (fun t ht hW => ⟨some (.int v), h, al, rfl, hP, ha, by rw [ht]; exact hw.1, hw.2.1, hw.2.2.F ht⟩) hw.2.2.2.2 hd C.2.2.2.2.2.2.1
theorem aw_vret {g : Glob} {M : Mth} {Post : Option Value → AH → Prop} {cl sl pc : Nat} {ls : List (Option Value)} {st : List Value} {h : AH} (hd : decode (m_cc M) pc = .ok (.return_, 1)) (hr : m_ret M = none) (hc : cl ≤ m_mc M) (hs : sl ≤ m_ms M) (hP : Post none h) : AW g M Post cl sl pc ls [] h := by
  intro p e s m args below meth c H locs lsA al0 n0 al C ha hw hl
  refine W.widen (k := m_mc M) (n := m_ms M) hc hs ?_
  exact W.vret C.1 C.2.1 (C.2.2.1.trans hr) (fun t ht hW => ⟨none, h, al, rfl, hP, ha, by rw [ht]; exact hw.1, hw.2.1, hw.2.2.F ht⟩) hw.2.2.2.2 hd C.2.2.2.2.2.2.1
theorem aw_lret {g : Glob} {M : Mth} {Post : Option Value → AH → Prop} {cl sl pc : Nat} {ls : List (Option Value)} {st : List Value} {h : AH} {v : Int64} (hd : decode (m_cc M) pc = .ok (.lreturn, 1)) (hr : m_ret M = some .long) (hc : cl ≤ m_mc M) (hs : sl ≤ m_ms M) (hP : Post (some (.long v)) h) : AW g M Post cl sl pc ls [.long v] h := by
  intro p e s m args below meth c H locs lsA al0 n0 al C ha hw hl
  refine W.widen (k := m_mc M) (n := m_ms M) hc hs ?_
  exact W.lret C.1 C.2.1 (C.2.2.1.trans hr) (fun t ht hW => ⟨some (.long v), h, al, rfl, hP, ha, by rw [ht]; exact hw.1, hw.2.1, hw.2.2.F ht⟩) hw.2.2.2.2 hd C.2.2.2.2.2.2.1
theorem aw_fret {g : Glob} {M : Mth} {Post : Option Value → AH → Prop} {cl sl pc : Nat} {ls : List (Option Value)} {st : List Value} {h : AH} {v : UInt32} (hd : decode (m_cc M) pc = .ok (.freturn, 1)) (hr : m_ret M = some .float) (hc : cl ≤ m_mc M) (hs : sl ≤ m_ms M) (hP : Post (some (.float v)) h) : AW g M Post cl sl pc ls [.float v] h := by
  intro p e s m args below meth c H locs lsA al0 n0 al C ha hw hl
  refine W.widen (k := m_mc M) (n := m_ms M) hc hs ?_
  exact W.fret C.1 C.2.1 (C.2.2.1.trans hr) (fun t ht hW => ⟨some (.float v), h, al, rfl, hP, ha, by rw [ht]; exact hw.1, hw.2.1, hw.2.2.F ht⟩) hw.2.2.2.2 hd C.2.2.2.2.2.2.1
