/-! ===== the class's scene beside the model's row; what always holds ===== -/
def ScC (S : Scn) (r : Fn) (m n : Nat) : Prop := s_nl S = nI m ∧ s_ns S = nI n ∧ (∀ i, i < 4 → s_pl S i = r i) ∧ (∀ l, l < m → s_sp S l = r (5 + l)) ∧ (∀ i, i < 7 * n → s_fc S i = r (14 + i)) ∧ (∀ l, l < 8 → s_ed S l = r (56 + l))
def WfR (r : Fn) (eo : Nat → Option Nat) (m n : Nat) : Prop := r 4 = nI m ∧ m ≤ 8 ∧ r 13 = nI n ∧ n ≤ 6 ∧ Okp r ∧ Okf (fcr r) n ∧ (∀ l, l < 8 → r (56 + l) = sh (eo l) ∧ okO n (eo l)) ∧ (∀ l, m ≤ l → eo l = none)
def Rw (S : Scn) (r : Fn) : Prop := ∃ eo m n, ScC S r m n ∧ WfR r eo m n
def row (f : Fn) (j : Nat) : Fn := fun i => f (64 * j + i)
def iPast (O : Oth) : Prop := ∃ d x : Nat, d ≤ 8 ∧ x < 8 ∧ o_kn O = nI d ∧ z_deeds (o_M O) = nI d ∧ o_nx O = nI x ∧ ∀ j, j < d → Rw (o_P O ((x + 8 - d + j) % 8)) (row (z_past (o_M O)) j)
def iImg (O : Oth) : Prop := ∀ k, k < 2 → o_kp O k = z_kept (o_M O) k ∧ (o_kp O k = 0 ∨ (o_kp O k = 1 ∧ Rw (o_I O k) (row (z_img (o_M O)) k)))
def iTxt (O : Oth) : Prop := ∃ t : Nat, t ≤ 160 ∧ r_len (o_R O) = nI t ∧ z_let (o_M O) = nI t ∧ ∀ i, i < t → ∃ c : Nat, c ≤ 255 ∧ r_t (o_R O) i = nI c ∧ z_text (o_M O) i = nI c
def iSee (O : Oth) : Prop := ∃ (q : Nat) (kw : Nat → Nat), q ≤ 6 ∧ q_sn (o_G O) = nI q ∧ z_seen (o_M O) = nI q ∧ ∀ j, j < q → q_wh (o_G O) j = nI (kw j) ∧ kw j ≤ 2 ∧ z_sw (o_M O) j = nI (kw j) ∧ z_si (o_M O) j = q_nu (o_G O) j
def Inv (X : St) : Prop := Rw X.1 (z_now (o_M X.2)) ∧ iPast X.2 ∧ iImg X.2 ∧ iTxt X.2 ∧ iSee X.2
def Pr (g : Glob) (Mx Mm : Mth) (as : List Value) : Prop := ∀ X : St, Inv X → ∃ (v : Int32) (X1 X2 : St), ACe g Mx (.ref 0 :: as) (lay X) (some (.int v)) (lay X1) ∧ ACe g Mm (.ref 94 :: as) (lay X1) (some (.int v)) (lay X2) ∧ Inv X2
/-! one side's words are the other's -/
section CG
variable {S : Scn} {r : Fn} {m n : Nat} {eo : Nat → Option Nat}
theorem ScC.okp (h : ScC S r m n) (w : WfR r eo m n) : Okp (s_pl S) := fun i hi => by rw [h.2.2.1 i hi]; exact w.2.2.2.2.1 i hi
theorem ScC.okf (h : ScC S r m n) (w : WfR r eo m n) : Okf (s_fc S) n := fun s hs k hk => by rw [h.2.2.2.2.1 (7 * s + k) (by omega)]; exact w.2.2.2.2.2.1 s hs k hk
theorem ScC.ed (h : ScC S r m n) (w : WfR r eo m n) : EdS S eo m n := ⟨h.1, w.2.1, w.2.2.2.1, fun l hl => ⟨by rw [h.2.2.2.2.2 l hl]; exact (w.2.2.2.2.2.2.1 l hl).1, (w.2.2.2.2.2.2.1 l hl).2⟩⟩
theorem ScC.sd (h : ScC S r m n) {s : Nat} (hs : s < n) : sdA (s_pl S) (s_fc S) s = sdA r (fcr r) s := by
  unfold sdA fcr
  rw [h.2.2.1 0 (by decide), h.2.2.1 1 (by decide), h.2.2.1 2 (by decide), h.2.2.1 3 (by decide), h.2.2.2.2.1 (7 * s) (by omega), h.2.2.2.2.1 (7 * s + 1) (by omega)]
theorem ScC.wy (h : ScC S r m n) {s k : Nat} (hs : s < n) (hk : k < 2) : wyA (s_pl S) (s_fc S) s k = wyA r (fcr r) s k := by
  unfold wyA fcr
  rw [h.2.2.1 k (by omega), h.2.2.1 (2 + k) (by omega), h.2.2.2.2.1 (7 * s + k) (by omega)]
theorem ScC.cn (h : ScC S r m n) {s t : Nat} (hs : s < n) (ht : t < n) : cnA (s_pl S) (s_fc S) s t = cnA r (fcr r) s t := by
  unfold cnA lkA nrA
  rw [h.sd hs, h.sd ht, h.wy hs (k := 0) (by decide), h.wy hs (k := 1) (by decide), h.wy ht (k := 0) (by decide), h.wy ht (k := 1) (by decide), h.2.2.2.2.1 (7 * s + 2) (by omega), h.2.2.2.2.1 (7 * t + 2) (by omega), h.2.2.2.2.1 (7 * s + 3) (by omega), h.2.2.2.2.1 (7 * t + 3) (by omega)]
theorem ScC.cv (h : ScC S r m n) {s l : Nat} (hs : s < n) : cvA (s_fc S) s l = cvA (fcr r) s l := by
  unfold cvA fcr
  rw [h.2.2.2.2.1 (7 * s + 4) (by omega), h.2.2.2.2.1 (7 * s + 5) (by omega)]
theorem ScC.re (h : ScC S r m n) {s l : Nat} (hs : s < n) (hl : l < m) : reA (s_fc S) (s_sp S) l s = reA (fcr r) (spr r) l s := by
  unfold reA fcr spr
  rw [h.2.2.2.2.1 (7 * s + 2) (by omega), h.2.2.2.1 l hl]
theorem ScC.ro (h : ScC S r m n) {o : Option Nat} {l : Nat} (ho : okO n o) (hl : l < m) : reO (s_fc S) (s_sp S) l o = reO (fcr r) (spr r) l o := by
  cases o with
  | none => rfl
  | some s => exact h.re (ho s rfl) hl
theorem ScC.co (h : ScC S r m n) {a b : Option Nat} (ha : okO n a) (hb : okO n b) : cnO (s_pl S) (s_fc S) a b = cnO r (fcr r) a b := by
  cases a with
  | none => rfl
  | some s =>
    cases b with
    | none => rfl
    | some t => exact h.cn (ha s rfl) (hb t rfl)
end CG
theorem msk_cg {p q : Nat → Bool} : ∀ n, (∀ s, s < n → p s = q s) → msk p n = msk q n := by
  intro n
  induction n with
  | zero => intro _; rfl
  | succ n ih => intro h; unfold msk; rw [ih (fun s hs => h s (by omega)), h n (by omega)]
theorem cnt_cg {p q : Nat → Bool} : ∀ n, (∀ s, s < n → p s = q s) → cnt p n = cnt q n := by
  intro n
  induction n with
  | zero => intro _; rfl
  | succ n ih => intro h; unfold cnt; rw [ih (fun s hs => h s (by omega)), h n (by omega)]
theorem allB_cg {p q : Nat → Bool} : ∀ n, (∀ s, s < n → p s = q s) → allB p n = allB q n := by
  intro n
  induction n with
  | zero => intro _; rfl
  | succ n ih => intro h; unfold allB; rw [ih (fun s hs => h s (by omega)), h n (by omega)]
/-- a number is below 0, too large, or the j-th -/
theorem ix (x : Int32) {n : Nat} (hn : n ≤ 2000) : x < 0 ∨ nI n ≤ x ∨ ∃ j : Nat, j < n ∧ x = nI j := pk_ix x (by omega)
theorem nlt0 (j : Nat) (h : j ≤ 2000) : ¬ nI j < 0 := nI_pos (by omega)
theorem toI_lit {n : Nat} (h : n ≤ 2000) : (nI n).toInt = n := nI_toInt (by omega)
theorem le_pred {x : Int32} {n : Nat} (hn : n ≤ 2000) : nI n - 1 < x ↔ nI n ≤ x := by
  have h1 : (nI n - 1).toInt = (n : Int) - 1 := by
    have := pk_sub_toInt (a := n) (b := 1) (by omega) (by omega)
    exact this
  rw [Int32.lt_iff_toInt_lt, Int32.le_iff_toInt_le, h1, toI_lit hn]
  omega
section P1
variable {g : Glob} {S : Scn} {O : Oth}
theorem ac_takeLetter {t : Nat} {c : Int32} (hl : r_len (o_R O) = nI t) (ht : t < 160) : ACe g mX2_takeLetter [.ref 53, .int c] (lay (S, O)) (some (.int 1)) (lay (S, o_R' O (r_len' (r_t' (o_R O) (upd (r_t (o_R O)) t c)) (nI (t + 1))))) := by
  have e : r_len (o_R (S, O).snd) = nI t := hl
  refine acw gdX2_takeLetter 40 rfl ⟨fun h => ?_, fun h => ?_⟩
  · refine ⟨_, _, rfl, vin e (by omega) (by decide), ?_⟩
    refine ⟨rfl, rfl, ?_⟩
    rw [vcl e (by omega), e, nI_1]
    rfl
  · rw [e] at h
    exact absurd ((nltI (b := 160) (by omega) (by omega)).mpr ht) h
theorem ac_takeLetter_full {c : Int32} (hl : r_len (o_R O) = nI 160) : ACe g mX2_takeLetter [.ref 53, .int c] (lay (S, O)) (some (.int 0)) (lay (S, O)) := by
  have e : r_len (o_R (S, O).snd) = nI 160 := hl
  refine acw gdX2_takeLetter 40 rfl ⟨fun h => ?_, fun h => ⟨rfl, rfl, rfl⟩⟩
  rw [e] at h
  exact absurd h (by decide)
theorem pr_type (c : Int32) : Pr g mX5_type mX6_type [.int c] := by
  rintro ⟨S, O⟩ ⟨i1, i2, i3, ⟨t, ht, hl, hl2, htx⟩, i5⟩
  by_cases hc : c < 0 ∨ 255 < c
  · refine ⟨-1, (S, O), (S, O), ?_, ?_, ⟨i1, i2, i3, ⟨t, ht, hl, hl2, htx⟩, i5⟩⟩
    · refine acw gdX5_type 40 rfl ⟨fun _ => ⟨rfl, rfl⟩, fun h1 => ⟨fun h2 => ?_, fun _ => ⟨rfl, rfl⟩⟩⟩
      rcases hc with hc | hc
      · exact absurd hc h1
      · exact absurd hc (Int32.not_lt.mpr h2)
    · refine acw gdX6_type 40 rfl (ac_to (am_in _ _ _ _) ⟨fun h1 => ?_, fun _ => ⟨rfl, rfl⟩⟩)
      rw [bi_e0, Bool.not_eq_false] at h1
      simp only [Bool.and_eq_true, Bool.not_eq_true', decide_eq_false_iff_not] at h1
      rcases hc with hc | hc
      · exact absurd hc h1.1
      · exact absurd hc h1.2
  have hc1 : ¬ c < 0 := fun z => hc (Or.inl z)
  have hc2 : ¬ 255 < c := fun z => hc (Or.inr z)
  have hin : (!decide (c < 0) && !decide (255 < c)) = true := by simp [hc1, hc2]
  obtain ⟨k, hk, rfl⟩ := nI_of2 (M := 255) (n := 255) (by decide) hc1 (Int32.not_lt.mp hc2)
  by_cases h160 : t = 160
  · subst h160
    refine ⟨-3, (S, O), (S, O), ?_, ?_, ⟨i1, i2, i3, ⟨_, ht, hl, hl2, htx⟩, i5⟩⟩
    · refine acw gdX5_type 40 rfl ⟨fun h => absurd h hc1, fun h1 => ⟨fun h2 => ?_, fun h2 => absurd (Int32.not_lt.mp hc2) h2⟩⟩
      exact ac_to (ac_takeLetter_full hl) ⟨fun _ => ⟨rfl, rfl⟩, fun h => absurd rfl h⟩
    · refine acw gdX6_type 40 rfl (ac_to (am_in _ _ _ _) ⟨fun h1 => ?_, fun h1 => absurd h1 (by rw [hin]; decide)⟩)
      have e : z_let (o_M (S, O).snd) = nI 160 := hl2
      refine ⟨fun h => absurd e h, fun _ => ⟨rfl, rfl⟩⟩
  · refine ⟨nI (t + 1), (S, o_R' O (r_len' (r_t' (o_R O) (upd (r_t (o_R O)) t (nI k))) (nI (t + 1)))), (S, o_M' (o_R' O (r_len' (r_t' (o_R O) (upd (r_t (o_R O)) t (nI k))) (nI (t + 1)))) (z_let' (z_text' (o_M O) (upd (z_text (o_M O)) t (nI k))) (nI (t + 1)))), ?_, ?_, ⟨i1, i2, i3, ⟨t + 1, by omega, rfl, rfl, ?_⟩, i5⟩⟩
    · refine acw gdX5_type 40 rfl ⟨fun h => absurd h hc1, fun h1 => ⟨fun h2 => ?_, fun h2 => absurd (Int32.not_lt.mp hc2) h2⟩⟩
      exact ac_to (ac_takeLetter hl (by omega)) ⟨fun h => absurd h (by decide), fun _ => ⟨rfl, rfl⟩⟩
    · refine acw gdX6_type 40 rfl (ac_to (am_in _ _ _ _) ⟨fun h1 => ?_, fun h1 => absurd h1 (by rw [hin]; decide)⟩)
      have e : z_let (o_M O) = nI t := hl2
      refine ⟨fun _ => ?_, fun h => absurd ((neqI (b := 160) (by omega) (by omega)).mp (e.symm.trans h)) h160⟩
      refine ⟨_, _, rfl, vin e (by omega) (by decide), ?_⟩
      refine ⟨?_, ?_⟩
      · show some (Value.int (z_let (o_M O) + 1)) = _
        rw [e, nI_1]
      · rw [vcl e (by omega)]
        show List.set (List.set (lay _) 100 _) 94 (.inr (6, [_, _, _, _, _, _, _, .int (z_let (o_M O) + 1), _, _, _, _, _, _, _, _, _, _, _, _, _, _, _])) = _
        rw [e, nI_1]
        rfl
    · intro i hi
      by_cases h : i = t
      · subst h
        exact ⟨k, hk, pk_us, pk_us⟩
      · obtain ⟨c, hc, z1, z2⟩ := htx i (by omega)
        exact ⟨c, hc, by show upd _ _ _ _ = _; rw [pk_un h]; exact z1, by show upd _ _ _ _ = _; rw [pk_un h]; exact z2⟩
end P1
